section
-- ===== PART A: goes FIRST, ahead of the names: the tables' words, and 'selects' of the private methods out of them =====
/-- a private method of a class that the tables say can be made, by its rows of tables_1 -/
def lw_okq (q : MethodName × Nat) : Prop := (q.1.cls ≠ "java/lang/invoke/MethodHandle" ∧ q.1.cls ≠ "java/lang/invoke/VarHandle") ∧ Cond.instantiable q.1.cls q.2 ∈ tables_1 ∧ Cond.privateMethod q.1 ∈ tables_1 ∧ Cond.instanceMethod q.1 ∈ tables_1
theorem lw_p0 : lw_okq (⟨"MixerStation$StationReader", "readHead", "(LMixerStation$State;)Z"⟩, 3) := ⟨⟨by decide +kernel, by decide +kernel⟩, List.mem_of_getElem? (i := 210) (by decide +kernel), List.mem_of_getElem? (i := 232) (by decide +kernel), List.mem_of_getElem? (i := 233) (by decide +kernel)⟩
theorem lw_p1 : lw_okq (⟨"MixerStation$StationReader", "here", "()I"⟩, 3) := ⟨⟨by decide +kernel, by decide +kernel⟩, List.mem_of_getElem? (i := 210) (by decide +kernel), List.mem_of_getElem? (i := 236) (by decide +kernel), List.mem_of_getElem? (i := 237) (by decide +kernel)⟩
theorem lw_p2 : lw_okq (⟨"MixerStation$StationReader", "readSetting", "(LMixerStation$State;II)Z"⟩, 3) := ⟨⟨by decide +kernel, by decide +kernel⟩, List.mem_of_getElem? (i := 210) (by decide +kernel), List.mem_of_getElem? (i := 240) (by decide +kernel), List.mem_of_getElem? (i := 241) (by decide +kernel)⟩
theorem lw_p3 : lw_okq (⟨"MixerStation$StationReader", "readNumber", "(III)I"⟩, 3) := ⟨⟨by decide +kernel, by decide +kernel⟩, List.mem_of_getElem? (i := 210) (by decide +kernel), List.mem_of_getElem? (i := 254) (by decide +kernel), List.mem_of_getElem? (i := 255) (by decide +kernel)⟩
theorem lw_p4 : lw_okq (⟨"MixerStation$StationReader", "readPart", "(LMixerStation$State;)Z"⟩, 3) := ⟨⟨by decide +kernel, by decide +kernel⟩, List.mem_of_getElem? (i := 210) (by decide +kernel), List.mem_of_getElem? (i := 262) (by decide +kernel), List.mem_of_getElem? (i := 263) (by decide +kernel)⟩
theorem lw_p5 : lw_okq (⟨"MixerStation$StationReader", "readRoom", "(LMixerStation$State;)Z"⟩, 3) := ⟨⟨by decide +kernel, by decide +kernel⟩, List.mem_of_getElem? (i := 210) (by decide +kernel), List.mem_of_getElem? (i := 270) (by decide +kernel), List.mem_of_getElem? (i := 271) (by decide +kernel)⟩
theorem lw_p6 : lw_okq (⟨"MixerStation$State", "move", "(III)V"⟩, 14) := ⟨⟨by decide +kernel, by decide +kernel⟩, List.mem_of_getElem? (i := 25) (by decide +kernel), List.mem_of_getElem? (i := 282) (by decide +kernel), List.mem_of_getElem? (i := 283) (by decide +kernel)⟩
theorem lw_p7 : lw_okq (⟨"MixerStation$State", "addHeat", "(II)V"⟩, 14) := ⟨⟨by decide +kernel, by decide +kernel⟩, List.mem_of_getElem? (i := 25) (by decide +kernel), List.mem_of_getElem? (i := 286) (by decide +kernel), List.mem_of_getElem? (i := 287) (by decide +kernel)⟩
theorem lw_p8 : lw_okq (⟨"MixerStation$StationReader", "readOutside", "(LMixerStation$State;)Z"⟩, 3) := ⟨⟨by decide +kernel, by decide +kernel⟩, List.mem_of_getElem? (i := 210) (by decide +kernel), List.mem_of_getElem? (i := 294) (by decide +kernel), List.mem_of_getElem? (i := 295) (by decide +kernel)⟩
theorem lw_p9 : lw_okq (⟨"MixerStation$State", "mustStop", "()Z"⟩, 14) := ⟨⟨by decide +kernel, by decide +kernel⟩, List.mem_of_getElem? (i := 25) (by decide +kernel), List.mem_of_getElem? (i := 328) (by decide +kernel), List.mem_of_getElem? (i := 329) (by decide +kernel)⟩
theorem lw_p10 : lw_okq (⟨"MixerStation$State", "mayStart", "()Z"⟩, 14) := ⟨⟨by decide +kernel, by decide +kernel⟩, List.mem_of_getElem? (i := 25) (by decide +kernel), List.mem_of_getElem? (i := 339) (by decide +kernel), List.mem_of_getElem? (i := 340) (by decide +kernel)⟩
theorem lw_p11 : lw_okq (⟨"java/lang/Throwable", "fillInStackTrace", "(I)Ljava/lang/Throwable;"⟩, 6) := ⟨⟨by decide +kernel, by decide +kernel⟩, List.mem_of_getElem? (i := 420) (by decide +kernel), List.mem_of_getElem? (i := 418) (by decide +kernel), List.mem_of_getElem? (i := 419) (by decide +kernel)⟩
theorem lw_p12 : lw_okq (⟨"MixerStation$History", "forgetOldest", "()V"⟩, 2) := ⟨⟨by decide +kernel, by decide +kernel⟩, List.mem_of_getElem? (i := 162) (by decide +kernel), List.mem_of_getElem? (i := 602) (by decide +kernel), List.mem_of_getElem? (i := 603) (by decide +kernel)⟩
theorem lw_p13 : lw_okq (⟨"MixerStation$State", "mix", "()V"⟩, 14) := ⟨⟨by decide +kernel, by decide +kernel⟩, List.mem_of_getElem? (i := 25) (by decide +kernel), List.mem_of_getElem? (i := 677) (by decide +kernel), List.mem_of_getElem? (i := 678) (by decide +kernel)⟩
theorem lw_p14 : lw_okq (⟨"MixerStation$State", "heatRooms", "()V"⟩, 14) := ⟨⟨by decide +kernel, by decide +kernel⟩, List.mem_of_getElem? (i := 25) (by decide +kernel), List.mem_of_getElem? (i := 681) (by decide +kernel), List.mem_of_getElem? (i := 682) (by decide +kernel)⟩
theorem lw_p15 : lw_okq (⟨"MixerStation$State", "leakRooms", "()V"⟩, 14) := ⟨⟨by decide +kernel, by decide +kernel⟩, List.mem_of_getElem? (i := 25) (by decide +kernel), List.mem_of_getElem? (i := 685) (by decide +kernel), List.mem_of_getElem? (i := 686) (by decide +kernel)⟩
def lw_privs_1 : List (MethodName × Nat) := [(⟨"MixerStation$StationReader", "readHead", "(LMixerStation$State;)Z"⟩, 3), (⟨"MixerStation$StationReader", "here", "()I"⟩, 3), (⟨"MixerStation$StationReader", "readSetting", "(LMixerStation$State;II)Z"⟩, 3), (⟨"MixerStation$StationReader", "readNumber", "(III)I"⟩, 3), (⟨"MixerStation$StationReader", "readPart", "(LMixerStation$State;)Z"⟩, 3), (⟨"MixerStation$StationReader", "readRoom", "(LMixerStation$State;)Z"⟩, 3), (⟨"MixerStation$State", "move", "(III)V"⟩, 14), (⟨"MixerStation$State", "addHeat", "(II)V"⟩, 14), (⟨"MixerStation$StationReader", "readOutside", "(LMixerStation$State;)Z"⟩, 3), (⟨"MixerStation$State", "mustStop", "()Z"⟩, 14), (⟨"MixerStation$State", "mayStart", "()Z"⟩, 14), (⟨"java/lang/Throwable", "fillInStackTrace", "(I)Ljava/lang/Throwable;"⟩, 6), (⟨"MixerStation$History", "forgetOldest", "()V"⟩, 2), (⟨"MixerStation$State", "mix", "()V"⟩, 14), (⟨"MixerStation$State", "heatRooms", "()V"⟩, 14), (⟨"MixerStation$State", "leakRooms", "()V"⟩, 14)]
theorem lw_r1 : ∀ q ∈ lw_privs_1, lw_okq q := List.forall_mem_cons.mpr ⟨lw_p0, List.forall_mem_cons.mpr ⟨lw_p1, List.forall_mem_cons.mpr ⟨lw_p2, List.forall_mem_cons.mpr ⟨lw_p3, List.forall_mem_cons.mpr ⟨lw_p4, List.forall_mem_cons.mpr ⟨lw_p5, List.forall_mem_cons.mpr ⟨lw_p6, List.forall_mem_cons.mpr ⟨lw_p7, List.forall_mem_cons.mpr ⟨lw_p8, List.forall_mem_cons.mpr ⟨lw_p9, List.forall_mem_cons.mpr ⟨lw_p10, List.forall_mem_cons.mpr ⟨lw_p11, List.forall_mem_cons.mpr ⟨lw_p12, List.forall_mem_cons.mpr ⟨lw_p13, List.forall_mem_cons.mpr ⟨lw_p14, List.forall_mem_cons.mpr ⟨lw_p15, fun _ h => absurd h List.not_mem_nil⟩⟩⟩⟩⟩⟩⟩⟩⟩⟩⟩⟩⟩⟩⟩⟩
theorem lw_p16 : lw_okq (⟨"MixerStation$State", "judgeRooms", "()V"⟩, 14) := ⟨⟨by decide +kernel, by decide +kernel⟩, List.mem_of_getElem? (i := 25) (by decide +kernel), List.mem_of_getElem? (i := 689) (by decide +kernel), List.mem_of_getElem? (i := 690) (by decide +kernel)⟩
theorem lw_p17 : lw_okq (⟨"MixerStationModel", "refused", "(I)Z"⟩, 12) := ⟨⟨by decide +kernel, by decide +kernel⟩, List.mem_of_getElem? (i := 829) (by decide +kernel), List.mem_of_getElem? (i := 887) (by decide +kernel), List.mem_of_getElem? (i := 888) (by decide +kernel)⟩
theorem lw_p18 : lw_okq (⟨"MixerStationModel", "readText", "()I"⟩, 12) := ⟨⟨by decide +kernel, by decide +kernel⟩, List.mem_of_getElem? (i := 829) (by decide +kernel), List.mem_of_getElem? (i := 899) (by decide +kernel), List.mem_of_getElem? (i := 900) (by decide +kernel)⟩
theorem lw_p19 : lw_okq (⟨"MixerStationModel", "isNext", "(I)Z"⟩, 12) := ⟨⟨by decide +kernel, by decide +kernel⟩, List.mem_of_getElem? (i := 829) (by decide +kernel), List.mem_of_getElem? (i := 903) (by decide +kernel), List.mem_of_getElem? (i := 904) (by decide +kernel)⟩
theorem lw_p20 : lw_okq (⟨"MixerStationModel", "accept", "(Z)V"⟩, 12) := ⟨⟨by decide +kernel, by decide +kernel⟩, List.mem_of_getElem? (i := 829) (by decide +kernel), List.mem_of_getElem? (i := 907) (by decide +kernel), List.mem_of_getElem? (i := 908) (by decide +kernel)⟩
theorem lw_p21 : lw_okq (⟨"MixerStationModel", "digit", "(II)I"⟩, 12) := ⟨⟨by decide +kernel, by decide +kernel⟩, List.mem_of_getElem? (i := 829) (by decide +kernel), List.mem_of_getElem? (i := 911) (by decide +kernel), List.mem_of_getElem? (i := 912) (by decide +kernel)⟩
theorem lw_p22 : lw_okq (⟨"MixerStationModel", "two", "(II)I"⟩, 12) := ⟨⟨by decide +kernel, by decide +kernel⟩, List.mem_of_getElem? (i := 829) (by decide +kernel), List.mem_of_getElem? (i := 917) (by decide +kernel), List.mem_of_getElem? (i := 918) (by decide +kernel)⟩
theorem lw_p23 : lw_okq (⟨"MixerStationModel", "readRoom", "()V"⟩, 12) := ⟨⟨by decide +kernel, by decide +kernel⟩, List.mem_of_getElem? (i := 829) (by decide +kernel), List.mem_of_getElem? (i := 921) (by decide +kernel), List.mem_of_getElem? (i := 922) (by decide +kernel)⟩
theorem lw_p24 : lw_okq (⟨"MixerStationModel", "readOutside", "()V"⟩, 12) := ⟨⟨by decide +kernel, by decide +kernel⟩, List.mem_of_getElem? (i := 829) (by decide +kernel), List.mem_of_getElem? (i := 937) (by decide +kernel), List.mem_of_getElem? (i := 938) (by decide +kernel)⟩
theorem lw_p25 : lw_okq (⟨"MixerStationModel", "readSetting", "()V"⟩, 12) := ⟨⟨by decide +kernel, by decide +kernel⟩, List.mem_of_getElem? (i := 829) (by decide +kernel), List.mem_of_getElem? (i := 941) (by decide +kernel), List.mem_of_getElem? (i := 942) (by decide +kernel)⟩
theorem lw_p26 : lw_okq (⟨"MixerStationModel", "isWarmPlace", "(I)Z"⟩, 12) := ⟨⟨by decide +kernel, by decide +kernel⟩, List.mem_of_getElem? (i := 829) (by decide +kernel), List.mem_of_getElem? (i := 981) (by decide +kernel), List.mem_of_getElem? (i := 982) (by decide +kernel)⟩
theorem lw_p27 : lw_okq (⟨"MixerStationModel", "isRoom", "(I)Z"⟩, 12) := ⟨⟨by decide +kernel, by decide +kernel⟩, List.mem_of_getElem? (i := 829) (by decide +kernel), List.mem_of_getElem? (i := 999) (by decide +kernel), List.mem_of_getElem? (i := 1000) (by decide +kernel)⟩
theorem lw_p28 : lw_okq (⟨"MixerStationModel", "note", "()V"⟩, 12) := ⟨⟨by decide +kernel, by decide +kernel⟩, List.mem_of_getElem? (i := 829) (by decide +kernel), List.mem_of_getElem? (i := 1021) (by decide +kernel), List.mem_of_getElem? (i := 1022) (by decide +kernel)⟩
theorem lw_p29 : lw_okq (⟨"MixerStationModel", "begin", "()V"⟩, 12) := ⟨⟨by decide +kernel, by decide +kernel⟩, List.mem_of_getElem? (i := 829) (by decide +kernel), List.mem_of_getElem? (i := 1102) (by decide +kernel), List.mem_of_getElem? (i := 1103) (by decide +kernel)⟩
theorem lw_p30 : lw_okq (⟨"MixerStationModel", "allReach", "(I)Z"⟩, 12) := ⟨⟨by decide +kernel, by decide +kernel⟩, List.mem_of_getElem? (i := 829) (by decide +kernel), List.mem_of_getElem? (i := 1126) (by decide +kernel), List.mem_of_getElem? (i := 1127) (by decide +kernel)⟩
theorem lw_p31 : lw_okq (⟨"MixerStationModel", "does", "(I)Z"⟩, 12) := ⟨⟨by decide +kernel, by decide +kernel⟩, List.mem_of_getElem? (i := 829) (by decide +kernel), List.mem_of_getElem? (i := 1143) (by decide +kernel), List.mem_of_getElem? (i := 1144) (by decide +kernel)⟩
def lw_privs_2 : List (MethodName × Nat) := [(⟨"MixerStation$State", "judgeRooms", "()V"⟩, 14), (⟨"MixerStationModel", "refused", "(I)Z"⟩, 12), (⟨"MixerStationModel", "readText", "()I"⟩, 12), (⟨"MixerStationModel", "isNext", "(I)Z"⟩, 12), (⟨"MixerStationModel", "accept", "(Z)V"⟩, 12), (⟨"MixerStationModel", "digit", "(II)I"⟩, 12), (⟨"MixerStationModel", "two", "(II)I"⟩, 12), (⟨"MixerStationModel", "readRoom", "()V"⟩, 12), (⟨"MixerStationModel", "readOutside", "()V"⟩, 12), (⟨"MixerStationModel", "readSetting", "()V"⟩, 12), (⟨"MixerStationModel", "isWarmPlace", "(I)Z"⟩, 12), (⟨"MixerStationModel", "isRoom", "(I)Z"⟩, 12), (⟨"MixerStationModel", "note", "()V"⟩, 12), (⟨"MixerStationModel", "begin", "()V"⟩, 12), (⟨"MixerStationModel", "allReach", "(I)Z"⟩, 12), (⟨"MixerStationModel", "does", "(I)Z"⟩, 12)]
theorem lw_r2 : ∀ q ∈ lw_privs_2, lw_okq q := List.forall_mem_cons.mpr ⟨lw_p16, List.forall_mem_cons.mpr ⟨lw_p17, List.forall_mem_cons.mpr ⟨lw_p18, List.forall_mem_cons.mpr ⟨lw_p19, List.forall_mem_cons.mpr ⟨lw_p20, List.forall_mem_cons.mpr ⟨lw_p21, List.forall_mem_cons.mpr ⟨lw_p22, List.forall_mem_cons.mpr ⟨lw_p23, List.forall_mem_cons.mpr ⟨lw_p24, List.forall_mem_cons.mpr ⟨lw_p25, List.forall_mem_cons.mpr ⟨lw_p26, List.forall_mem_cons.mpr ⟨lw_p27, List.forall_mem_cons.mpr ⟨lw_p28, List.forall_mem_cons.mpr ⟨lw_p29, List.forall_mem_cons.mpr ⟨lw_p30, List.forall_mem_cons.mpr ⟨lw_p31, fun _ h => absurd h List.not_mem_nil⟩⟩⟩⟩⟩⟩⟩⟩⟩⟩⟩⟩⟩⟩⟩⟩
def lw_privs : List (MethodName × Nat) := lw_privs_1 ++ (lw_privs_2)
def lw_tbl : List Cond := k2_sels lw_privs ++ tables_1
theorem lw_privs_ok : ∀ q ∈ lw_privs, lw_okq q := by
  show ∀ q ∈ lw_privs_1 ++ (lw_privs_2), lw_okq q
  exact List.forall_mem_append.mpr ⟨lw_r1, lw_r2⟩
-- ===== end of PART A; then your names; then what follows =====
end
section
/-! ===== BEGIN words of one list among another's, by their places ===== -/
theorem goodIn_r {big : List Cond} (ws : List Cond) (ps : List Nat) (hp : ws = ps.filterMap (fun i => big[i]?)) (h : ws.all goodWord = true) : GoodIn big ws := by
  intro w hw
  have h1 := List.all_eq_true.mp h w hw
  rw [hp] at hw
  obtain ⟨i, -, hi⟩ := List.mem_filterMap.mp hw
  have hm : w ∈ big := by first | exact List.mem_of_getElem? hi | exact List.getElem?_mem hi
  exact ⟨hm, good_of_word h1⟩
theorem goodIn_app {big a b : List Cond} (ha : GoodIn big a) (hb : GoodIn big b) : GoodIn big (a ++ b) := fun w h => (List.mem_append.mp h).elim (ha w) (hb w)
theorem goodIn_ca {big a b : List Cond} {c : Cond} (ha : GoodIn big (c :: a)) (hb : GoodIn big b) : GoodIn big (c :: (a ++ b)) := fun w h => (List.mem_cons.mp h).elim (fun e => ha w (List.mem_cons.mpr (Or.inl e))) (fun h => (List.mem_append.mp h).elim (fun h => ha w (List.mem_cons.mpr (Or.inr h))) (hb w))
theorem goodIn_sub {big ws : List Cond} (hm : ∀ w ∈ ws, w ∈ big) (h : ws.all goodWord = true) : GoodIn big ws := fun w hw => ⟨hm w hw, good_of_word (List.all_eq_true.mp h w hw)⟩
/-! ===== END ===== -/

/-! ===== BEGIN exceptions that leave a method, and their catching by the caller (launches without stack traces) ===== -/
section VXA
/-! The laws vx_back, vx_callV, vx_callS, vx_callSW, vx_throw0, vx_throwS follow proofs of the library, with one case more: JvmDerived/Free/Laws.lean (Back.of_free), Shelf42/LK1.lean (callV, callS), Shelf/KitTraced.lean (throwNew0V, throwNewS). -/
/-- where a method has thrown q: the class by its name, the cell, what was written, the world -/
def vx_T (XC : String → State → State → Prop) (st : State) (q : Addr) (t : State) (mc ms : Nat) (free : Addr → Prop) : Prop :=
  ∃ (E : String) (ce : Cell) (L : List Loc), XC E st t ∧ t.heap[q]? = some ce ∧ ce.vm = .none ∧ st.vm.findClass E = some ce.cls ∧ st.WarmedH t.vm ∧ st.sameButNew ({ t with vm := st.vm } : State) L mc ms ∧ ∀ z ∈ L, free z.base
def vx_Q (Qc : Array Value → State → Outcome → State → Prop) (XC : String → State → State → Prop) (mc ms : Nat) (free : Addr → Prop) : Array Value → State → Outcome → State → Prop := fun a st o t =>
  (Qc a st o t ∧ ∃ L, FrameEnd st o t L mc ms ∧ ∀ q ∈ L, free q.base) ∨ ∃ q, o = .threw q ∧ vx_T XC st q t mc ms free
/-- a callee that returns or throws -/
def vx_Met (l : Launch) (y : MethodName) (ws : List Cond) (rm : Room) (Pc : Array Value → State → Prop) (Qc : Array Value → State → Outcome → State → Prop) (XC : String → State → State → Prop) (mc ms : Nat) (free : Addr → Prop) : Prop :=
  MetFree l y (headSpec ws rm) Pc (fun _ _ _ _ _ => True) (vx_Q Qc XC mc ms free)
def vx_Post (XC : String → State → State → Prop) (mc ms : Nat) (free : Addr → Prop) : Pt → Array Value → Addr → Pt → Prop := fun A a q B =>
  ∃ (g : JFrame) (mk : MethodId) (t : State) (L : List Loc) (E : String) (ce : Cell), B.U.heap = t.heap ∧ B.U.vm = t.vm ∧ XC E (A.U.calling g mk a) t ∧ t.heap[q]? = some ce ∧ ce.vm = .none ∧ A.U.vm.findClass E = some ce.cls ∧ B.locs = A.locs ++ L ∧ (∀ z ∈ L, free z.base) ∧ B.cells = A.cells + mc ∧ B.slots = A.slots + ms
def vx_Back (l : Launch) (R : Room) (p : Program) (e : Env) (below : List Frame) (s : State) (sargs : Array Value) (y : MethodName) (len W9 : Nat)
    (Pre : Pt → Array Value → Prop) (Post : Pt → Array Value → Option Value → Pt → Prop) (PostX : Pt → Array Value → Addr → Pt → Prop) : Prop :=
  ∀ (m : MethodId) (meth : Method) (c : Code) (A : Pt) (g : JFrame) (ig : Instr) (mk : MethodId) (a : Array Value),
    Stand p l e R s m sargs below meth c A.U A.locs A.cells A.slots → g.method = m → g.locals.size = c.maxLocals → decode c.code g.pc = .ok (ig, len) →
    2 * g.monitorRoom + (g.stack.map fun v => v.category).sum ≤ W9 → A.U.methodNamed? y = some mk → Pre A a →
    (∃ (v : Option Value) (B : Pt), Stand p l e R s m sargs below meth c B.U B.locs B.cells B.slots ∧ Post A a v B ∧
      Steps p.tables e below (doInvoke e (A.U.setTop g) [] mk a).1 (B.U.setTop { g with pc := g.pc + len, stack := v.toList ++ g.stack })) ∨
    (∃ (q : Addr) (B : Pt), Stand p l e R s m sargs below meth c B.U B.locs B.cells B.slots ∧ PostX A a q B ∧
      Steps p.tables e below (doInvoke e (A.U.setTop g) [] mk a).1 ((B.U.setTop g).pushFrame (.throwing q)))
section Payer
variable {l : Launch} {R : Room} {p : Program} {e : Env} {below : List Frame} {s : State} {sargs : Array Value} {y : MethodName} {len W9 : Nat}
theorem vx_back {ws : List Cond} {rm : Room} {Pc : Array Value → State → Prop} {Qc : Array Value → State → Outcome → State → Prop} {XC : String → State → State → Prop} {mc ms : Nat} {free : Addr → Prop} {bytes : ByteArray} {maxL : Nat} {ret : Option FieldType}
    (hM : vx_Met l y ws rm Pc Qc XC mc ms free) (hblind : FrameBlind Pc) (hrc : rm.cells = mc) (hrs : rm.slots = ms)
    (hframes : rm.frames + 1 ≤ R.frames) (hlocals : W9 + (maxL + 11) + rm.locals ≤ R.locals)
    (hws : ∀ w ∈ ws, ∀ a' U, s.WarmedH U.vm → w.before a' U = true) (hcode : Cond.code y bytes maxL ret ∈ ws) (hinit : ∀ a' U, s.WarmedH U.vm → (Cond.initialized y.cls).before a' U = true) :
    vx_Back l R p e below s sargs y len W9 (PreOf R mc ms Pc) (PostOf Qc mc ms free) (vx_Post XC mc ms free) := by
  intro m meth c A g ig mk a X hg hsize hdg hW hn hp
  have h1 : (headSpec ws rm).pre.before a A.U = true := atoms_intro fun w hw => hws w hw _ _ X.warmed
  have h2 : (Cond.code y bytes maxL ret).before a A.U = true := hws _ hcode _ _ X.warmed
  have h3 : (Cond.initialized y.cls).before a A.U = true := hinit _ _ X.warmed
  have h4 : A.cells + (headSpec ws rm).room.cells ≤ R.cells := by rw [show (headSpec ws rm).room.cells = mc from hrc]; exact hp.1
  have h5 : A.slots + (headSpec ws rm).room.slots ≤ R.slots := by rw [show (headSpec ws rm).room.slots = ms from hrs]; exact hp.2.1
  have hPc : Pc a (A.U.calling g mk a) := hblind _ _ _ _ hp.2.2
  obtain ⟨U, Ls, c0, s0⟩ := A
  dsimp only [Pt.U, Pt.locs, Pt.cells, Pt.slots] at h1 h2 h3 h4 h5 X hn hPc ⊢
  obtain ⟨methY, cY, hmY, hcY, -, hlY, -, -, -, -⟩ := Cond.code_spec hn h2
  obtain ⟨kY, hkY, -⟩ := className_of_methodNamed hn
  have hinitY : kY.init = .initialized := Cond.initialized_spec (findClass_of_methodNamed hn) hkY h3
  have h : At U g.method c below := by rw [hg]; exact X.here
  have hlocals9 : W9 + (maxL + 11) + (headSpec ws rm).room.locals ≤ R.locals := hlocals
  have happ : (headSpec ws rm).appliesLoose y e.platform (U.calling g mk a) = true :=
    Spec.appliesLoose_calling (g := g) h hdg hn hkY hinitY
      (X.room_calling (g := g) (R' := (headSpec ws rm).room) hsize hmY hcY hframes (by rw [hlY]; omega) h4 h5) h1
  obtain ⟨mid, hmid⟩ := h.above
  have hfr : (U.setTop g).frames = (.java g :: mid) ++ below := by rw [State.frames_setTop' g h.top, hmid]; rfl
  obtain ⟨o, s₂, hsteps, -, hend, hq⟩ := Steps.callFree hM p X.admits X.cas X.clock (acts := []) hfr happ hPc trivial
  have hq' : vx_Q Qc XC mc ms free a (U.calling g mk a) o s₂ := hq
  rw [State.frames_setTop' g h.top] at hend
  obtain ⟨g₀, hg0⟩ := Option.isSome_iff_exists.mp h.top
  obtain ⟨r, hr⟩ := State.topJava?_eq_some.mp hg0
  have hr' : (({ U with heap := s₂.heap, slotsUsed := s₂.slotsUsed } : State).setVm s₂.vm).frames = .java g₀ :: r := hr
  rcases hq' with ⟨hqc, L, hfe, hL⟩ | ⟨q, rfl, E, ce, L, hx, hce, hcv, hcl, hW₂, hsm, hL⟩
  · obtain ⟨⟨v, rfl⟩, hW₂, e2, q2, q3, q4, q5, q6⟩ := id hfe
    have e3 : s₂ = ({ (U.calling g mk a).setFrames s₂.frames with heap := s₂.heap, slotsUsed := s₂.slotsUsed } : State).setVm s₂.vm := by
      have : s₂ = ({ s₂ with vm := (U.calling g mk a).vm } : State).setVm s₂.vm := rfl
      rw [e2] at this
      exact this
    obtain ⟨c₂, i₂, len₂, hc₂, hd₂, hf₂⟩ := hend
    have hW' : U.WarmedH s₂.vm := hW₂
    have hcc : c₂ = c := by
      have h1 : s₂.code? g.method = U.code? g.method := by
        rw [State.code?_eq, State.code?_eq, hW'.alike.method?]
      exact Option.some.inj (hc₂.symm.trans (h1.trans h.code))
    subst hcc
    have hlen : len₂ = len := by rw [hdg] at hd₂; cases hd₂; rfl
    subst hlen
    have hs₂ : s₂ = (({ U with heap := s₂.heap, slotsUsed := s₂.slotsUsed } : State).setVm s₂.vm).setTop { g with pc := g.pc + len₂, stack := v.toList ++ g.stack } := by
      refine e3.trans ?_
      rw [hf₂, State.calling_eq h.top, State.setFrames_setFrames, State.setTop_of_frames _ hr', hr]
      rfl
    have hsame : U.sameButNew ({ U with heap := s₂.heap, slotsUsed := s₂.slotsUsed } : State) L mc ms := by
      refine ⟨?_, q2, q3, q4, q5, q6⟩
      obtain ⟨t, ht, -⟩ := State.frames_cons hr
      show ({ U with heap := s₂.heap, slotsUsed := s₂.slotsUsed } : State) = { U.setFrames U.frames with heap := s₂.heap, slotsUsed := s₂.slotsUsed }
      rw [State.setFrames_self ht]
    subst hg
    refine Or.inl ⟨v, ⟨(({ U with heap := s₂.heap, slotsUsed := s₂.slotsUsed } : State).setVm s₂.vm), Ls ++ L, c0 + mc, s0 + ms⟩,
      ⟨X.admits, X.cas, X.clock, X.frames, X.room, X.hears, X.method, X.code, (X.here.setHeapUsed s₂.heap s₂.slotsUsed).setVm hW'.alike, X.tail, State.WarmedH.trans X.warmed hW', X.limits, X.bytes, X.same.trans (hsame.setVm s.vm)⟩,
      ⟨g, mk, s₂, L, rfl, rfl, hqc, rfl, hL, rfl, rfl⟩, ?_⟩
    show Steps p.tables e below _ ((({ U with heap := s₂.heap, slotsUsed := s₂.slotsUsed } : State).setVm s₂.vm).setTop { g with pc := g.pc + len₂, stack := v.toList ++ g.stack })
    rw [← hs₂]
    exact hsteps
  · obtain ⟨e2, q2, q3, q4, q5, q6⟩ := id hsm
    have e3 : s₂ = ({ (U.calling g mk a).setFrames s₂.frames with heap := s₂.heap, slotsUsed := s₂.slotsUsed } : State).setVm s₂.vm := by
      have : s₂ = ({ s₂ with vm := (U.calling g mk a).vm } : State).setVm s₂.vm := rfl
      rw [e2] at this
      exact this
    have hf₂ : s₂.frames = .throwing q :: .java g :: U.frames.tail := hend
    have hW' : U.WarmedH s₂.vm := hW₂
    have hs₂ : s₂ = ((({ U with heap := s₂.heap, slotsUsed := s₂.slotsUsed } : State).setVm s₂.vm).setTop g).pushFrame (.throwing q) := by
      refine e3.trans ?_
      rw [hf₂, State.calling_eq h.top, State.setFrames_setFrames, State.pushFrame, State.frames_setTop _ hr', State.setTop_of_frames _ hr', State.setFrames_setFrames, hr]
      rfl
    have hsame : U.sameButNew ({ U with heap := s₂.heap, slotsUsed := s₂.slotsUsed } : State) L mc ms := by
      refine ⟨?_, q2, q3, q4, q5, q6⟩
      obtain ⟨t, ht, -⟩ := State.frames_cons hr
      show ({ U with heap := s₂.heap, slotsUsed := s₂.slotsUsed } : State) = { U.setFrames U.frames with heap := s₂.heap, slotsUsed := s₂.slotsUsed }
      rw [State.setFrames_self ht]
    subst hg
    refine Or.inr ⟨q, ⟨(({ U with heap := s₂.heap, slotsUsed := s₂.slotsUsed } : State).setVm s₂.vm), Ls ++ L, c0 + mc, s0 + ms⟩,
      ⟨X.admits, X.cas, X.clock, X.frames, X.room, X.hears, X.method, X.code, (X.here.setHeapUsed s₂.heap s₂.slotsUsed).setVm hW'.alike, X.tail, State.WarmedH.trans X.warmed hW', X.limits, X.bytes, X.same.trans (hsame.setVm s.vm)⟩,
      ⟨g, mk, s₂, L, E, ce, rfl, rfl, hx, hce, hcv, hcl, rfl, hL, rfl, rfl⟩, ?_⟩
    show Steps p.tables e below _ (((({ U with heap := s₂.heap, slotsUsed := s₂.slotsUsed } : State).setVm s₂.vm).setTop g).pushFrame (.throwing q))
    rw [← hs₂]
    exact hsteps
end Payer
section Calls
variable {p : Program} {l : Launch} {e : Env} {R : Room} {s : State} {m : MethodId} {args : Array Value} {below : List Frame} {meth : Method} {c : Code} {T : State} {locs : List Loc} {cells slots : Nat}
theorem vx_callV (X : Stand p l e R s m args below meth c T locs cells slots) (hexec : p.tables.exec = Jvm.exec) {own C : String} {index : Nat} {y : MethodName} {bytes : ByteArray} {maxL : Nat} {ret : Option FieldType}
    (hown : s.vm.findClass own = some m.cls) (hlink : (Cond.methodLink own index y).before args s = true) (hinst : (Cond.instanceMethod y).before args s = true) (hsel : (Cond.selects C y y).before args s = true)
    (hcode : (Cond.code y bytes maxL ret).before args s = true) (hy : y.cls ≠ "java/lang/invoke/MethodHandle" ∧ y.cls ≠ "java/lang/invoke/VarHandle")
    {W9 : Nat} {Pre : Pt → Array Value → Prop} {Post : Pt → Array Value → Option Value → Pt → Prop} {PostX : Pt → Array Value → Addr → Pt → Prop} (hK : vx_Back l R p e below s args y 3 W9 Pre Post PostX)
    {b : Addr} {cellB : Cell} (hcell : T.heap[b]? = some cellB) (hobj : cellB.vm.isStatics = false) (hcls : s.vm.findClass C = some cellB.cls)
    {g : JFrame} (hg : g.method = m) (hsize : g.locals.size = c.maxLocals) {argsL rest : List Value} (hlen : ∀ sig, parseMethodDescriptor y.desc = some sig → argsL.length = sig.parameters.length)
    (hstack : g.stack = argsL.reverse ++ .ref b :: rest) (hW : 2 * g.monitorRoom + (rest.map fun v => v.category).sum ≤ W9) (hdg : decode c.code g.pc = .ok (.invokevirtual index, 3))
    (hpre : ∀ vm₁, s.WarmedH vm₁ → Pre ⟨T.setVm vm₁, locs, cells, slots⟩ (Value.ref b :: argsL).toArray) :
    (∃ (v : Option Value) (vm₁ : Vm) (B : Pt), s.WarmedH vm₁ ∧ Stand p l e R s m args below meth c B.U B.locs B.cells B.slots ∧ Post ⟨T.setVm vm₁, locs, cells, slots⟩ (Value.ref b :: argsL).toArray v B ∧
      ∀ target, Steps p.tables e below (B.U.setTop { g with pc := g.pc + 3, stack := v.toList ++ rest }) target → Steps p.tables e below (T.setTop g) target) ∨
    (∃ (q : Addr) (vm₁ : Vm) (B : Pt), s.WarmedH vm₁ ∧ Stand p l e R s m args below meth c B.U B.locs B.cells B.slots ∧ PostX ⟨T.setVm vm₁, locs, cells, slots⟩ (Value.ref b :: argsL).toArray q B ∧
      Steps p.tables e below (T.setTop g) ((B.U.setTop { g with stack := rest }).pushFrame (.throwing q))) := by
  obtain ⟨mk, methM, hnamed, hmethM, hstM, habM⟩ := Cond.instanceMethod_spec hinst
  obtain ⟨methM', cM, hmethM', -, -, -, -, -, -, hsigM⟩ := Cond.code_spec hnamed hcode
  cases hmethM.symm.trans hmethM'
  obtain ⟨c2, r2, m2, q1, q2, q3, q4, kP, hkP, hkPi⟩ := Cond.selects_spec hsel
  cases hcls.symm.trans q1
  cases (State.methodFound?_of_named hnamed hy).symm.trans q2
  cases hnamed.symm.trans q3
  have hselP : selectMethod e.platform s.vm cellB.cls mk = .method mk := by rw [Launch.admits_selectMethod X.admits]; exact q4
  obtain ⟨vm₁, X₁, hstep₁⟩ := X.invokevirtual hexec hown hlink hnamed hmethM hstM hkP hkPi hy (a := b) (cell := cellB) hcell
    (fun z h => by rw [h] at hobj; cases hobj) hselP hmethM habM hkP hkPi (g := g) hg (argsL := argsL) (rest := rest) (hlen _ hsigM) hstack hdg
  rcases hK m meth c ⟨T.setVm vm₁, locs, cells, slots⟩ { g with stack := rest } (.invokevirtual index) mk (Value.ref b :: argsL).toArray X₁ hg hsize hdg hW (X₁.named hnamed) (hpre vm₁ X₁.warmed) with ⟨v, B, X', hpost, hsteps⟩ | ⟨q, B, X', hpost, hsteps⟩
  · exact Or.inl ⟨v, vm₁, B, X₁.warmed, X', hpost, fun target h => hstep₁ _ fun acts => by rw [doInvoke_state]; exact hsteps.trans h⟩
  · exact Or.inr ⟨q, vm₁, B, X₁.warmed, X', hpost, hstep₁ _ fun acts => by rw [doInvoke_state]; exact hsteps⟩
theorem vx_callS (X : Stand p l e R s m args below meth c T locs cells slots) (hexec : p.tables.exec = Jvm.exec) {own : String} {index : Nat} {y : MethodName} {bytes : ByteArray} {maxL : Nat} {ret : Option FieldType}
    (hown : s.vm.findClass own = some m.cls) (hlink : (Cond.methodLink own index y).before args s = true) (hstat : (Cond.static y).before args s = true) (hinit : (Cond.initialized y.cls).before args s = true)
    (hcode : (Cond.code y bytes maxL ret).before args s = true) (hy : y.cls ≠ "java/lang/invoke/MethodHandle" ∧ y.cls ≠ "java/lang/invoke/VarHandle")
    {W9 : Nat} {Pre : Pt → Array Value → Prop} {Post : Pt → Array Value → Option Value → Pt → Prop} {PostX : Pt → Array Value → Addr → Pt → Prop} (hK : vx_Back l R p e below s args y 3 W9 Pre Post PostX)
    {g : JFrame} (hg : g.method = m) (hsize : g.locals.size = c.maxLocals) {argsL rest : List Value} (hlen : ∀ sig, parseMethodDescriptor y.desc = some sig → argsL.length = sig.parameters.length)
    (hstack : g.stack = argsL.reverse ++ rest) (hW : 2 * g.monitorRoom + (rest.map fun v => v.category).sum ≤ W9) (hdg : decode c.code g.pc = .ok (.invokestatic index, 3))
    (hpre : ∀ vm₁, s.WarmedH vm₁ → Pre ⟨T.setVm vm₁, locs, cells, slots⟩ argsL.toArray) :
    (∃ (v : Option Value) (vm₁ : Vm) (B : Pt), s.WarmedH vm₁ ∧ Stand p l e R s m args below meth c B.U B.locs B.cells B.slots ∧ Post ⟨T.setVm vm₁, locs, cells, slots⟩ argsL.toArray v B ∧
      ∀ target, Steps p.tables e below (B.U.setTop { g with pc := g.pc + 3, stack := v.toList ++ rest }) target → Steps p.tables e below (T.setTop g) target) ∨
    (∃ (q : Addr) (vm₁ : Vm) (B : Pt), s.WarmedH vm₁ ∧ Stand p l e R s m args below meth c B.U B.locs B.cells B.slots ∧ PostX ⟨T.setVm vm₁, locs, cells, slots⟩ argsL.toArray q B ∧
      Steps p.tables e below (T.setTop g) ((B.U.setTop { g with stack := rest }).pushFrame (.throwing q))) := by
  obtain ⟨mk, hnamed⟩ := Cond.code_named hcode
  obtain ⟨methM, cM, hmethM, -, -, -, -, -, -, hsigM⟩ := Cond.code_spec hnamed hcode
  have hstatic : methM.isStatic = true := Cond.static_spec hnamed hmethM hstat
  obtain ⟨kP, hkP, -⟩ := className_of_methodNamed hnamed
  have hinitP : kP.init = .initialized := Cond.initialized_spec (findClass_of_methodNamed hnamed) hkP hinit
  obtain ⟨vm₁, X₁, hstep₁⟩ := X.invokestatic hexec hown hlink hnamed hmethM hstatic hkP hinitP hy (g := g) hg (argsL := argsL) (rest := rest) (hlen _ hsigM) hstack hdg
  rcases hK m meth c ⟨T.setVm vm₁, locs, cells, slots⟩ { g with stack := rest } (.invokestatic index) mk argsL.toArray X₁ hg hsize hdg hW (X₁.named hnamed) (hpre vm₁ X₁.warmed) with ⟨v, B, X', hpost, hsteps⟩ | ⟨q, B, X', hpost, hsteps⟩
  · exact Or.inl ⟨v, vm₁, B, X₁.warmed, X', hpost, fun target h => hstep₁ _ fun acts => by rw [doInvoke_state]; exact hsteps.trans h⟩
  · exact Or.inr ⟨q, vm₁, B, X₁.warmed, X', hpost, hstep₁ _ fun acts => by rw [doInvoke_state]; exact hsteps⟩
end Calls
theorem vx_cls {s : State} {T : State} {vm₁ : Vm} {E : String} {k : ClassId} (hW : s.WarmedH vm₁) (h : (T.setVm vm₁).vm.findClass E = some k) : s.vm.findClass E = some k := by
  have h1 : vm₁.findClass E = some k := h
  rw [hW.alike.findClass] at h1
  exact h1
/-- the method's frame g, with q thrown over it -/
def vx_W (p : Program) (l : Launch) (e : Env) (R : Room) (s : State) (m : MethodId) (args : Array Value) (below : List Frame) (meth : Method) (c : Code) (H : Heap) (locs : List Loc) (cells slots : Nat) (Q : State → Prop) (g : JFrame) (q : Addr) : Prop :=
  ∀ T : State, T.heap = H → Stand p l e R s m args below meth c T locs cells slots → ∃ t, Steps p.tables e below ((T.setTop g).pushFrame (.throwing q)) t ∧ Q t
def vx_Run (p : Program) (l : Launch) (e : Env) (R : Room) (s : State) (m : MethodId) (args : Array Value) (below : List Frame) (meth : Method) (c : Code) (H : Heap) (locs : List Loc) (cells slots mc ms : Nat) (g : JFrame) (rest : List Value) (Qa : State → Outcome → State → Prop) (XC : String → State → State → Prop) (free : Addr → Prop) : Prop :=
  ∀ T : State, T.heap = H → Stand p l e R s m args below meth c T locs cells slots →
    (∃ (v : Option Value) (st₀ t T' : State) (L : List Loc), st₀.heap = H ∧ Stand p l e R s m args below meth c T' (locs ++ L) (cells + mc) (slots + ms) ∧ (∀ q ∈ L, free q.base) ∧ T'.heap = t.heap ∧ T'.vm = t.vm ∧ Qa st₀ (.returned v) t ∧
      Goes p e below T g T' { g with pc := g.pc + 3, stack := v.toList ++ rest }) ∨
    (∃ (q : Addr) (st₀ t T' : State) (L : List Loc) (E : String) (ce : Cell), st₀.heap = H ∧ Stand p l e R s m args below meth c T' (locs ++ L) (cells + mc) (slots + ms) ∧ (∀ z ∈ L, free z.base) ∧ T'.heap = t.heap ∧ T'.vm = t.vm ∧ XC E st₀ t ∧ t.heap[q]? = some ce ∧ ce.vm = .none ∧ s.vm.findClass E = some ce.cls ∧
      Steps p.tables e below (T.setTop g) ((T'.setTop { g with stack := rest }).pushFrame (.throwing q)))
def vx_X {S : Type} (px : S → Prop) (B : String → S → State → Prop) (A : Nat → Prop) : String → State → State → Prop := fun E st t => ∃ u : S, px u ∧ B E u t ∧ va_F A st t
section Runs
variable {p : Program} {l : Launch} {e : Env} {R : Room} {s : State} {m : MethodId} {args : Array Value} {below : List Frame} {meth : Method} {c : Code} {H : Heap} {locs : List Loc} {cells slots : Nat}
variable {y : MethodName} {bytes cc : ByteArray} {maxL nL mc ms n index : Nat} {ret : Option FieldType} {ws : List Cond} {rm : Room} {Pc : Array Value → State → Prop} {Qc : Array Value → State → Outcome → State → Prop} {XC : String → State → State → Prop} {free : Addr → Prop} {Ts : List Cond} {own C : String} {b : Addr} {As rest : List Value} {g : JFrame}
theorem vx_callBack (cb : CallB R s args own index y bytes maxL ret ws rm mc ms n) (hM : vx_Met l y ws rm Pc Qc XC mc ms free) (hbl : FrameBlind Pc) : vx_Back l R p e below s args y 3 8 (PreOf R mc ms Pc) (PostOf Qc mc ms free) (vx_Post XC mc ms free) := by
  obtain ⟨hrc, hrs, hfr, hlo, hws, hcw, -, hini, -⟩ := cb
  exact vx_back (bytes := bytes) (maxL := maxL) (ret := ret) hM hbl hrc hrs hfr hlo hws hcw (fun a' U hW => word_at hW (Or.inl (by first | rfl | simp [Cond.onTables, Cond.keeps, Cond.steady])) hini)
theorem vx_runV (S : CallFix p m c cc nL s args Ts own) (hM : vx_Met l y ws rm Pc Qc XC mc ms free) (cw : CallW R s args own C index y bytes maxL ret ws rm mc ms n) (hp : PreV s H C b Pc As)
    (hg : g.method = m) (hn : As.length = n) (hsize : g.locals.size = nL) (hstack : g.stack = As.reverse ++ .ref b :: rest) (hW : 2 * g.monitorRoom + (rest.map fun v => v.category).sum ≤ 8) (hdg : decode cc g.pc = .ok (.invokevirtual index, 3)) (hf : cells + mc ≤ R.cells ∧ slots + ms ≤ R.slots) :
    vx_Run p l e R s m args below meth c H locs cells slots mc ms g rest (Qc (Value.ref b :: As).toArray) XC free := by
  have hK : vx_Back l R p e below s args y 3 8 (PreOf R mc ms Pc) (PostOf Qc mc ms free) (vx_Post XC mc ms free) := vx_callBack cw.1 hM hp.1
  obtain ⟨⟨-, -, -, -, -, -, hcode, -, hy, hlen, hl⟩, hin, hse⟩ := cw
  obtain ⟨hx, hb, hml, ho, -⟩ := S
  obtain ⟨-, ⟨cellB, hcB, hoB, hclB⟩, hPc⟩ := hp
  intro T hT X
  rcases vx_callV X hx (C := C) (bytes := bytes) (maxL := maxL) (ret := ret) ho hl hin hse hcode hy hK (by rw [hT]; exact hcB) hoB hclB hg (hsize.trans hml.symm) (argsL := As) (rest := rest) (fun sig h => hn.trans (hlen sig h)) hstack hW (by rw [hb]; exact hdg)
    (fun vm₁ hW₁ => ⟨hf.1, hf.2, hPc (T.setVm vm₁) hT hW₁⟩) with ⟨v, vm₁, ⟨U', l2, c2, s2⟩, hW₁, X', ⟨g', mk, t, L, e1, e2, hq, h1, hL, h2, h3⟩, st⟩ | ⟨q, vm₁, ⟨U', l2, c2, s2⟩, hW₁, X', ⟨g', mk, t, L, E, ce, e1, e2, hq, hce, hcv, hcl, h1, hL, h2, h3⟩, st⟩
  · dsimp only [Pt.U, Pt.locs, Pt.cells, Pt.slots] at X' e1 e2 h1 h2 h3 st
    subst h1; subst h2; subst h3
    exact Or.inl ⟨v, (T.setVm vm₁).calling g' mk (Value.ref b :: As).toArray, t, U', L, hT, X', hL, e1, e2, hq, st⟩
  · dsimp only [Pt.U, Pt.locs, Pt.cells, Pt.slots] at X' e1 e2 h1 h2 h3 st hcl
    subst h1; subst h2; subst h3
    exact Or.inr ⟨q, (T.setVm vm₁).calling g' mk (Value.ref b :: As).toArray, t, U', L, E, ce, hT, X', hL, e1, e2, hq, hce, hcv, vx_cls hW₁ hcl, st⟩
theorem vx_runS (S : CallFix p m c cc nL s args Ts own) (hM : vx_Met l y ws rm Pc Qc XC mc ms free) (cw : CallB R s args own index y bytes maxL ret ws rm mc ms n ∧ (Cond.static y).before args s = true) (hp : PreS s H Pc As)
    (hg : g.method = m) (hn : As.length = n) (hsize : g.locals.size = nL) (hstack : g.stack = As.reverse ++ rest) (hW : 2 * g.monitorRoom + (rest.map fun v => v.category).sum ≤ 8) (hdg : decode cc g.pc = .ok (.invokestatic index, 3)) (hf : cells + mc ≤ R.cells ∧ slots + ms ≤ R.slots) :
    vx_Run p l e R s m args below meth c H locs cells slots mc ms g rest (Qc As.toArray) XC free := by
  have hK : vx_Back l R p e below s args y 3 8 (PreOf R mc ms Pc) (PostOf Qc mc ms free) (vx_Post XC mc ms free) := vx_callBack cw.1 hM hp.1
  obtain ⟨⟨-, -, -, -, -, -, hcode, hini, hy, hlen, hl⟩, hstt⟩ := cw
  obtain ⟨hx, hb, hml, ho, -⟩ := S
  intro T hT X
  rcases vx_callS X hx (bytes := bytes) (maxL := maxL) (ret := ret) ho hl hstt hini hcode hy hK hg (hsize.trans hml.symm) (argsL := As) (rest := rest) (fun sig h => hn.trans (hlen sig h)) hstack hW (by rw [hb]; exact hdg)
    (fun vm₁ hW₁ => ⟨hf.1, hf.2, hp.2 (T.setVm vm₁) hT hW₁⟩) with ⟨v, vm₁, ⟨U', l2, c2, s2⟩, hW₁, X', ⟨g', mk, t, L, e1, e2, hq, h1, hL, h2, h3⟩, st⟩ | ⟨q, vm₁, ⟨U', l2, c2, s2⟩, hW₁, X', ⟨g', mk, t, L, E, ce, e1, e2, hq, hce, hcv, hcl, h1, hL, h2, h3⟩, st⟩
  · dsimp only [Pt.U, Pt.locs, Pt.cells, Pt.slots] at X' e1 e2 h1 h2 h3 st
    subst h1; subst h2; subst h3
    exact Or.inl ⟨v, (T.setVm vm₁).calling g' mk As.toArray, t, U', L, hT, X', hL, e1, e2, hq, st⟩
  · dsimp only [Pt.U, Pt.locs, Pt.cells, Pt.slots] at X' e1 e2 h1 h2 h3 st hcl
    subst h1; subst h2; subst h3
    exact Or.inr ⟨q, (T.setVm vm₁).calling g' mk As.toArray, t, U', L, E, ce, hT, X', hL, e1, e2, hq, hce, hcv, vx_cls hW₁ hcl, st⟩
end Runs
section Rows
variable {p : Program} {l : Launch} {e : Env} {R : Room} {s : State} {m : MethodId} {args : Array Value} {below : List Frame} {meth : Method} {c : Code} {H : Heap} {locs : List Loc} {cells slots : Nat} {Q : State → Prop}
variable {mc ms : Nat} {free : Addr → Prop} {A0 A1 : Nat → Prop} {H0 : Heap} {a : Array Value} {pc : Nat} {ls : Array Slot} {st0 rest : List Value}
theorem vx_keep {st₀ t T' : State} {L : List Loc} (h0 : st₀.heap = H) (e1 : T'.heap = t.heap) (hS : va_S A0 H0 H locs) (hA : ∀ q, q < H.size → A1 q → A0 q) (hf : ∀ q, free q → A0 q) (hL : ∀ q ∈ L, free q.base) (hF : va_F A1 st₀ t) :
    H.size ≤ T'.heap.size ∧ (∀ q : Nat, q < H.size → ¬ A1 q → T'.heap[q]? = H[q]?) ∧ va_S A0 H0 T'.heap (locs ++ L) := by
  obtain ⟨hz, hk⟩ := hF
  rw [h0] at hz hk
  exact ⟨by rw [e1]; exact hz, fun q h1 h2 => by rw [e1]; exact hk q h1 h2,
    ⟨Nat.le_trans hS.1 (by rw [e1]; exact hz), fun q h1 h2 => by rw [e1, hk q (Nat.lt_of_lt_of_le h1 hS.1) (fun z => h2 (hA q (Nat.lt_of_lt_of_le h1 hS.1) z))]; exact hS.2.1 q h1 h2, fun q hq => by
      rcases List.mem_append.mp hq with h | h
      · exact hS.2.2 q h
      · exact hf _ (hL q h)⟩⟩
theorem vx_calli {S SX : Type} {post : Int32 → S → Prop} {px : SX → Prop} {B : S → State → Prop} {BX : String → SX → State → Prop} {AX : Nat → Prop} (hr : vx_Run p l e R s m args below meth c H locs cells slots mc ms (F0 m pc ls st0) rest (va_Qi post B A1 a) (vx_X px BX AX) free) (hS : va_S A0 H0 H locs) (hA : ∀ q, q < H.size → A1 q → A0 q) (hf : ∀ q, free q → A0 q) (hAX : ∀ q, q < H.size → AX q → A0 q)
    (kx : ∀ (E : String) (ce : Cell) (q9 : Addr) (u : SX) (t : State) (H1 : Heap) (locs1 : List Loc), t.heap = H1 → s.vm.Alike t.vm → px u → BX E u t → H.size ≤ H1.size → (∀ q : Nat, q < H.size → ¬ AX q → H1[q]? = H[q]?) → va_S A0 H0 H1 locs1 → H1[q9]? = some ce → ce.vm = .none → s.vm.findClass E = some ce.cls → vx_W p l e R s m args below meth c H1 locs1 (cells + mc) (slots + ms) Q (F0 m pc ls rest) q9)
    (kk : ∀ (r : Int32) (u : S) (t : State) (H1 : Heap) (locs1 : List Loc), t.heap = H1 → s.vm.Alike t.vm → post r u → B u t → H.size ≤ H1.size → (∀ q : Nat, q < H.size → ¬ A1 q → H1[q]? = H[q]?) → va_S A0 H0 H1 locs1 → W p l e R s m args below meth c H1 locs1 (cells + mc) (slots + ms) Q (F0 m (pc + 3) ls (.int r :: rest))) : W p l e R s m args below meth c H locs cells slots Q (F0 m pc ls st0) := by
  intro T hT X
  rcases hr T hT X with ⟨v, st₀, t, T', L, h0, X', hL, e1, e2, ⟨⟨r, u, hv, hp, hb⟩, hF⟩, st⟩ | ⟨q, st₀, t, T', L, E, ce, h0, X', hL, e1, e2, ⟨u, hp, hb, hF⟩, hce, hcv, hcl, st⟩
  · cases hv
    obtain ⟨k1, k2, k3⟩ := vx_keep h0 e1 hS hA hf hL hF
    obtain ⟨t2, a1, b1⟩ := kk r u t T'.heap (locs ++ L) e1.symm (by rw [← e2]; exact X'.warmed.alike) hp hb k1 k2 k3 T' rfl X'
    exact ⟨t2, st t2 a1, b1⟩
  · obtain ⟨k1, k2, k3⟩ := vx_keep h0 e1 hS hAX hf hL hF
    obtain ⟨t2, a1, b1⟩ := kx E ce q u t T'.heap (locs ++ L) e1.symm (by rw [← e2]; exact X'.warmed.alike) hp hb k1 k2 k3 (by rw [e1]; exact hce) hcv hcl T' rfl X'
    exact ⟨t2, st.trans a1, b1⟩
theorem vx_calll {S SX : Type} {post : Int64 → S → Prop} {px : SX → Prop} {B : S → State → Prop} {BX : String → SX → State → Prop} {AX : Nat → Prop} (hr : vx_Run p l e R s m args below meth c H locs cells slots mc ms (F0 m pc ls st0) rest (va_Ql post B A1 a) (vx_X px BX AX) free) (hS : va_S A0 H0 H locs) (hA : ∀ q, q < H.size → A1 q → A0 q) (hf : ∀ q, free q → A0 q) (hAX : ∀ q, q < H.size → AX q → A0 q)
    (kx : ∀ (E : String) (ce : Cell) (q9 : Addr) (u : SX) (t : State) (H1 : Heap) (locs1 : List Loc), t.heap = H1 → s.vm.Alike t.vm → px u → BX E u t → H.size ≤ H1.size → (∀ q : Nat, q < H.size → ¬ AX q → H1[q]? = H[q]?) → va_S A0 H0 H1 locs1 → H1[q9]? = some ce → ce.vm = .none → s.vm.findClass E = some ce.cls → vx_W p l e R s m args below meth c H1 locs1 (cells + mc) (slots + ms) Q (F0 m pc ls rest) q9)
    (kk : ∀ (r : Int64) (u : S) (t : State) (H1 : Heap) (locs1 : List Loc), t.heap = H1 → s.vm.Alike t.vm → post r u → B u t → H.size ≤ H1.size → (∀ q : Nat, q < H.size → ¬ A1 q → H1[q]? = H[q]?) → va_S A0 H0 H1 locs1 → W p l e R s m args below meth c H1 locs1 (cells + mc) (slots + ms) Q (F0 m (pc + 3) ls (.long r :: rest))) : W p l e R s m args below meth c H locs cells slots Q (F0 m pc ls st0) := by
  intro T hT X
  rcases hr T hT X with ⟨v, st₀, t, T', L, h0, X', hL, e1, e2, ⟨⟨r, u, hv, hp, hb⟩, hF⟩, st⟩ | ⟨q, st₀, t, T', L, E, ce, h0, X', hL, e1, e2, ⟨u, hp, hb, hF⟩, hce, hcv, hcl, st⟩
  · cases hv
    obtain ⟨k1, k2, k3⟩ := vx_keep h0 e1 hS hA hf hL hF
    obtain ⟨t2, a1, b1⟩ := kk r u t T'.heap (locs ++ L) e1.symm (by rw [← e2]; exact X'.warmed.alike) hp hb k1 k2 k3 T' rfl X'
    exact ⟨t2, st t2 a1, b1⟩
  · obtain ⟨k1, k2, k3⟩ := vx_keep h0 e1 hS hAX hf hL hF
    obtain ⟨t2, a1, b1⟩ := kx E ce q u t T'.heap (locs ++ L) e1.symm (by rw [← e2]; exact X'.warmed.alike) hp hb k1 k2 k3 (by rw [e1]; exact hce) hcv hcl T' rfl X'
    exact ⟨t2, st.trans a1, b1⟩
theorem vx_callf {S SX : Type} {post : UInt32 → S → Prop} {px : SX → Prop} {B : S → State → Prop} {BX : String → SX → State → Prop} {AX : Nat → Prop} (hr : vx_Run p l e R s m args below meth c H locs cells slots mc ms (F0 m pc ls st0) rest (va_Qf post B A1 a) (vx_X px BX AX) free) (hS : va_S A0 H0 H locs) (hA : ∀ q, q < H.size → A1 q → A0 q) (hf : ∀ q, free q → A0 q) (hAX : ∀ q, q < H.size → AX q → A0 q)
    (kx : ∀ (E : String) (ce : Cell) (q9 : Addr) (u : SX) (t : State) (H1 : Heap) (locs1 : List Loc), t.heap = H1 → s.vm.Alike t.vm → px u → BX E u t → H.size ≤ H1.size → (∀ q : Nat, q < H.size → ¬ AX q → H1[q]? = H[q]?) → va_S A0 H0 H1 locs1 → H1[q9]? = some ce → ce.vm = .none → s.vm.findClass E = some ce.cls → vx_W p l e R s m args below meth c H1 locs1 (cells + mc) (slots + ms) Q (F0 m pc ls rest) q9)
    (kk : ∀ (r : UInt32) (u : S) (t : State) (H1 : Heap) (locs1 : List Loc), t.heap = H1 → s.vm.Alike t.vm → post r u → B u t → H.size ≤ H1.size → (∀ q : Nat, q < H.size → ¬ A1 q → H1[q]? = H[q]?) → va_S A0 H0 H1 locs1 → W p l e R s m args below meth c H1 locs1 (cells + mc) (slots + ms) Q (F0 m (pc + 3) ls (.float r :: rest))) : W p l e R s m args below meth c H locs cells slots Q (F0 m pc ls st0) := by
  intro T hT X
  rcases hr T hT X with ⟨v, st₀, t, T', L, h0, X', hL, e1, e2, ⟨⟨r, u, hv, hp, hb⟩, hF⟩, st⟩ | ⟨q, st₀, t, T', L, E, ce, h0, X', hL, e1, e2, ⟨u, hp, hb, hF⟩, hce, hcv, hcl, st⟩
  · cases hv
    obtain ⟨k1, k2, k3⟩ := vx_keep h0 e1 hS hA hf hL hF
    obtain ⟨t2, a1, b1⟩ := kk r u t T'.heap (locs ++ L) e1.symm (by rw [← e2]; exact X'.warmed.alike) hp hb k1 k2 k3 T' rfl X'
    exact ⟨t2, st t2 a1, b1⟩
  · obtain ⟨k1, k2, k3⟩ := vx_keep h0 e1 hS hAX hf hL hF
    obtain ⟨t2, a1, b1⟩ := kx E ce q u t T'.heap (locs ++ L) e1.symm (by rw [← e2]; exact X'.warmed.alike) hp hb k1 k2 k3 (by rw [e1]; exact hce) hcv hcl T' rfl X'
    exact ⟨t2, st.trans a1, b1⟩
theorem vx_calld {S SX : Type} {post : UInt64 → S → Prop} {px : SX → Prop} {B : S → State → Prop} {BX : String → SX → State → Prop} {AX : Nat → Prop} (hr : vx_Run p l e R s m args below meth c H locs cells slots mc ms (F0 m pc ls st0) rest (va_Qd post B A1 a) (vx_X px BX AX) free) (hS : va_S A0 H0 H locs) (hA : ∀ q, q < H.size → A1 q → A0 q) (hf : ∀ q, free q → A0 q) (hAX : ∀ q, q < H.size → AX q → A0 q)
    (kx : ∀ (E : String) (ce : Cell) (q9 : Addr) (u : SX) (t : State) (H1 : Heap) (locs1 : List Loc), t.heap = H1 → s.vm.Alike t.vm → px u → BX E u t → H.size ≤ H1.size → (∀ q : Nat, q < H.size → ¬ AX q → H1[q]? = H[q]?) → va_S A0 H0 H1 locs1 → H1[q9]? = some ce → ce.vm = .none → s.vm.findClass E = some ce.cls → vx_W p l e R s m args below meth c H1 locs1 (cells + mc) (slots + ms) Q (F0 m pc ls rest) q9)
    (kk : ∀ (r : UInt64) (u : S) (t : State) (H1 : Heap) (locs1 : List Loc), t.heap = H1 → s.vm.Alike t.vm → post r u → B u t → H.size ≤ H1.size → (∀ q : Nat, q < H.size → ¬ A1 q → H1[q]? = H[q]?) → va_S A0 H0 H1 locs1 → W p l e R s m args below meth c H1 locs1 (cells + mc) (slots + ms) Q (F0 m (pc + 3) ls (.double r :: rest))) : W p l e R s m args below meth c H locs cells slots Q (F0 m pc ls st0) := by
  intro T hT X
  rcases hr T hT X with ⟨v, st₀, t, T', L, h0, X', hL, e1, e2, ⟨⟨r, u, hv, hp, hb⟩, hF⟩, st⟩ | ⟨q, st₀, t, T', L, E, ce, h0, X', hL, e1, e2, ⟨u, hp, hb, hF⟩, hce, hcv, hcl, st⟩
  · cases hv
    obtain ⟨k1, k2, k3⟩ := vx_keep h0 e1 hS hA hf hL hF
    obtain ⟨t2, a1, b1⟩ := kk r u t T'.heap (locs ++ L) e1.symm (by rw [← e2]; exact X'.warmed.alike) hp hb k1 k2 k3 T' rfl X'
    exact ⟨t2, st t2 a1, b1⟩
  · obtain ⟨k1, k2, k3⟩ := vx_keep h0 e1 hS hAX hf hL hF
    obtain ⟨t2, a1, b1⟩ := kx E ce q u t T'.heap (locs ++ L) e1.symm (by rw [← e2]; exact X'.warmed.alike) hp hb k1 k2 k3 (by rw [e1]; exact hce) hcv hcl T' rfl X'
    exact ⟨t2, st.trans a1, b1⟩
theorem vx_callv {S SX : Type} {post : S → Prop} {px : SX → Prop} {B : S → State → Prop} {BX : String → SX → State → Prop} {AX : Nat → Prop} (hr : vx_Run p l e R s m args below meth c H locs cells slots mc ms (F0 m pc ls st0) rest (va_Qv post B A1 a) (vx_X px BX AX) free) (hS : va_S A0 H0 H locs) (hA : ∀ q, q < H.size → A1 q → A0 q) (hf : ∀ q, free q → A0 q) (hAX : ∀ q, q < H.size → AX q → A0 q)
    (kx : ∀ (E : String) (ce : Cell) (q9 : Addr) (u : SX) (t : State) (H1 : Heap) (locs1 : List Loc), t.heap = H1 → s.vm.Alike t.vm → px u → BX E u t → H.size ≤ H1.size → (∀ q : Nat, q < H.size → ¬ AX q → H1[q]? = H[q]?) → va_S A0 H0 H1 locs1 → H1[q9]? = some ce → ce.vm = .none → s.vm.findClass E = some ce.cls → vx_W p l e R s m args below meth c H1 locs1 (cells + mc) (slots + ms) Q (F0 m pc ls rest) q9)
    (kk : ∀ (u : S) (t : State) (H1 : Heap) (locs1 : List Loc), t.heap = H1 → s.vm.Alike t.vm → post u → B u t → H.size ≤ H1.size → (∀ q : Nat, q < H.size → ¬ A1 q → H1[q]? = H[q]?) → va_S A0 H0 H1 locs1 → W p l e R s m args below meth c H1 locs1 (cells + mc) (slots + ms) Q (F0 m (pc + 3) ls (rest))) : W p l e R s m args below meth c H locs cells slots Q (F0 m pc ls st0) := by
  intro T hT X
  rcases hr T hT X with ⟨v, st₀, t, T', L, h0, X', hL, e1, e2, ⟨⟨u, hv, hp, hb⟩, hF⟩, st⟩ | ⟨q, st₀, t, T', L, E, ce, h0, X', hL, e1, e2, ⟨u, hp, hb, hF⟩, hce, hcv, hcl, st⟩
  · cases hv
    obtain ⟨k1, k2, k3⟩ := vx_keep h0 e1 hS hA hf hL hF
    obtain ⟨t2, a1, b1⟩ := kk u t T'.heap (locs ++ L) e1.symm (by rw [← e2]; exact X'.warmed.alike) hp hb k1 k2 k3 T' rfl X'
    exact ⟨t2, st t2 a1, b1⟩
  · obtain ⟨k1, k2, k3⟩ := vx_keep h0 e1 hS hAX hf hL hF
    obtain ⟨t2, a1, b1⟩ := kx E ce q u t T'.heap (locs ++ L) e1.symm (by rw [← e2]; exact X'.warmed.alike) hp hb k1 k2 k3 (by rw [e1]; exact hce) hcv hcl T' rfl X'
    exact ⟨t2, st.trans a1, b1⟩
/-- caught by the row x of this method's table; the rows ahead don't take it -/
theorem vx_catch {own name : String} {E : String} {ce : Cell} {q : Addr} (hown : s.vm.findClass own = some m.cls) (pre : List ExceptionTableEntry) (x : ExceptionTableEntry) (suf : List ExceptionTableEntry) (hsplit : c.exceptionTable.toList = pre ++ x :: suf)
    (hpass : ∀ z ∈ pre, covers z pc = false ∨ (z.catchType ≠ 0 ∧ ∃ nm : String, (Cond.classLink own z.catchType nm).before args s = true ∧ va_Nc E nm s)) (hx : covers x pc = true) (h0 : x.catchType ≠ 0)
    (hlink : (Cond.classLink own x.catchType name).before args s = true) (hcast : (Cond.castable E name).before args s = true) (hcell : H[q]? = some ce) (hv : ce.vm = .none) (hcl : s.vm.findClass E = some ce.cls)
    (kk : W p l e R s m args below meth c H locs cells slots Q (F0 m x.handlerPc ls [.ref q])) : vx_W p l e R s m args below meth c H locs cells slots Q (F0 m pc ls rest) q := by
  intro T hT X
  have hpl : e.platform.magicAccessors = ({} : Platform).magicAccessors := by rw [X.admits.platform]
  obtain ⟨c3, c4, hc3, hc4, hasg⟩ := Cond.castable_spec hcast
  cases Option.some.inj (hc3.symm.trans hcl)
  obtain ⟨c5, hc5, hcl5⟩ := Cond.classLink_spec hown hlink e.platform hpl
  cases Option.some.inj (hc4.symm.trans hc5)
  obtain ⟨vm', X', st⟩ := X.thenCaughtThrough q (g := F0 m pc ls rest) rfl (Steps.refl _) (by rw [hT]; exact hcell) (by rw [hv]; rfl) (by obtain ⟨k9, h9, -⟩ := Vm.findClass_spec hcl; exact ⟨k9, h9⟩) pre x suf hsplit
    (fun z hz => by
      rcases hpass z hz with h | ⟨hz0, nm, hl1, hn1⟩
      · exact Or.inl h
      · obtain ⟨c6, hc6, hcl6⟩ := Cond.classLink_spec hown hl1 e.platform hpl
        obtain ⟨a8, b8, h1, h2, h3⟩ := hn1
        cases Option.some.inj (h1.symm.trans hcl)
        cases Option.some.inj (h2.symm.trans hc6)
        exact Or.inr ⟨hz0, _, hcl6, h3⟩) hx (Or.inr ⟨h0, c4, hcl5, hasg⟩)
  obtain ⟨t, a1, b1⟩ := kk (T.setVm vm') hT X'
  exact ⟨t, st.trans a1, b1⟩
end Rows
section Ends
variable {p : Program} {l : Launch} {e : Env} {R : Room} {s : State} {m : MethodId} {args : Array Value} {below : List Frame} {meth : Method} {c : Code} {H : Heap} {locs : List Loc} {cells slots : Nat} {Q : State → Prop}
variable {mc ms : Nat} {free : Addr → Prop} {A0 A1 : Nat → Prop} {H0 : Heap} {a : Array Value} {ls : Array Slot} {st0 rest : List Value}
variable {Qc : Array Value → State → Outcome → State → Prop} {XC : String → State → State → Prop}
/-- what a body that may throw owes at its end -/
def vx_MQ (below : List Frame) (Qc : Array Value → State → Outcome → State → Prop) (XC : String → State → State → Prop) (a : Array Value) (s : State) (mc ms : Nat) (free : Addr → Prop) : State → Prop := fun t =>
  ∃ o, t.status = .running ∧ Ended t below o ∧ vx_Q Qc XC mc ms free a s o t
theorem vx_ret {g : JFrame} {mc ms : Nat} (k : W p l e R s m args below meth c H locs cells slots (MQ below Qc args s mc ms free) g) : W p l e R s m args below meth c H locs cells slots (vx_MQ below Qc XC args s mc ms free) g := by
  intro T hT X
  obtain ⟨t, a1, o, b1, b2, b3, b4⟩ := k T hT X
  exact ⟨t, a1, o, b1, b2, Or.inl ⟨b3, b4⟩⟩
/-- not caught here: it goes on to the caller -/
theorem vx_widen {g : JFrame} {q : Addr} {k n : Nat} (h1 : cells ≤ k) (h2 : slots ≤ n) (kk : vx_W p l e R s m args below meth c H locs k n Q g q) : vx_W p l e R s m args below meth c H locs cells slots Q g q := fun T hT X => kk T hT (stand_widen X h1 h2)
theorem vx_out {pc : Nat} {E : String} {ce : Cell} {q : Addr} {mc ms : Nat} (hout : ∀ x ∈ c.exceptionTable.toList, covers x pc = false) (hlocks : meth.locks = false) (hcell : H[q]? = some ce) (hv : ce.vm = .none) (hcl : s.vm.findClass E = some ce.cls)
    (hx : ∀ t : State, t.heap = H → s.vm.Alike t.vm → XC E s t) (hf : ∀ z ∈ locs, free z.base) (hc : cells ≤ mc) (hs : slots ≤ ms) :
    vx_W p l e R s m args below meth c H locs cells slots (vx_MQ below Qc XC args s mc ms free) (F0 m pc ls rest) q := by
  intro T hT X
  obtain ⟨st1, hrun, hend, hW, hsm⟩ := X.leaveThrown q (g := F0 m pc ls rest) rfl rfl rfl hout hlocks
  have hcell9 : (T.setFrames (.throwing q :: below)).heap[q]? = some ce := by
    show T.heap[q]? = some ce
    rw [hT]; exact hcell
  exact ⟨_, st1, .threw q, hrun, hend, Or.inr ⟨q, rfl, E, ce, locs, hx _ hT hW.alike, hcell9, hv, hcl, hW, hsm.mono hc hs, hf⟩⟩
theorem vx_frame {U : State} {k n : Nat} (h : s.sameButNew ({ U with vm := s.vm } : State) locs k n) : s.heap.size ≤ U.heap.size ∧ ∀ q : Nat, q < s.heap.size → (∀ z ∈ locs, z.base ≠ q) → U.heap[q]? = s.heap[q]? := by
  obtain ⟨-, h2, -, -, -, h6⟩ := h
  refine ⟨h2, fun q hq hz => ?_⟩
  obtain ⟨c9, e1, e2, e3, e4⟩ := h6 q _ (Array.getElem?_eq_getElem hq)
  have hs : c9.slots = (s.heap[q]).slots := Array.ext_getElem? fun i => e4 i fun hm => hz _ hm rfl
  have h9 : c9 = s.heap[q] := by
    rw [hs] at e2
    exact e2
  have e5 : U.heap[q]? = some c9 := e1
  rw [e5, h9, Array.getElem?_eq_getElem hq]
/-- the words of a throw but the four that speak of the heap -/
def vx_no (w : Cond) : Bool := decide (w ≠ .isRef (.static Bundle.tN "UNASSIGNED_STACK" Bundle.steD)) && decide (w ≠ .isRef (.static Bundle.tN "SUPPRESSED_SENTINEL" Bundle.listD)) && decide (w ≠ .laysStatic Bundle.tN "UNASSIGNED_STACK" Bundle.steD) && decide (w ≠ .laysStatic Bundle.tN "SUPPRESSED_SENTINEL" Bundle.listD)
def vx_at0 (own : String) (ic : Nat) (X : String) (names : List String) : List Cond := (Bundle.ownAtoms0 own ic X names).filter vx_no
def vx_atS (own : String) (ic : Nat) (X : String) (names : List String) : List Cond := (Bundle.ownAtoms own ic X names).filter vx_no
/-- a word that the tables alone decide, or a good one -/
def vx_ot (w : Cond) : Bool := w.onTables || goodWord w
theorem vx_ot_at {args a' : Array Value} {s U : State} {w : Cond} (hW : s.WarmedH U.vm) (hvm : s.vm = U.vm) (hg : vx_ot w = true) (h : w.before args s = true) : w.before a' U = true := by
  simp only [vx_ot, Bool.or_eq_true] at hg
  rcases hg with hg | hg
  · exact va_tabs hg hvm h
  · exact word_at hW (good_of_word hg) h
/-- a list's words: the good ones out of the method's own list, the others by premises of their own -/
theorem vx_hat {args : Array Value} {s : State} {L B : List Cond} (h1 : ∀ w ∈ L.filter goodWord, w.before args s = true) (h2 : ∀ w ∈ L.filter (fun w => !goodWord w), w ∈ B) (h3 : ∀ w ∈ B, w.before args s = true) : ∀ w ∈ L, w.before args s = true := by
  intro w hw
  by_cases g : goodWord w = true
  · exact h1 w (List.mem_filter.mpr ⟨hw, g⟩)
  · refine h3 w (h2 w (List.mem_filter.mpr ⟨hw, ?_⟩))
    show (!goodWord w) = true
    cases hgw : goodWord w
    · rfl
    · exact absurd hgw g
theorem vx_c {args : Array Value} {s : State} {w : Cond} {B : List Cond} (h : w.before args s = true) (t : ∀ w ∈ B, w.before args s = true) : ∀ w' ∈ w :: B, w'.before args s = true := fun w' h' => (List.mem_cons.mp h').elim (fun e => by rw [e]; exact h) (t w')
theorem vx_n {args : Array Value} {s : State} : ∀ w ∈ ([] : List Cond), w.before args s = true := fun _ h => nomatch h
theorem vx_own {args : Array Value} {s : State} {L : List Cond} (h1 : ∀ w ∈ L.filter vx_no, w.before args s = true)
    (hU : (Cond.isRef (.static Bundle.tN "UNASSIGNED_STACK" Bundle.steD)).before args s = true) (hN : (Cond.isRef (.static Bundle.tN "SUPPRESSED_SENTINEL" Bundle.listD)).before args s = true)
    (lU : (Cond.laysStatic Bundle.tN "UNASSIGNED_STACK" Bundle.steD).before args s = true) (lN : (Cond.laysStatic Bundle.tN "SUPPRESSED_SENTINEL" Bundle.listD).before args s = true) : ∀ w ∈ L, w.before args s = true := by
  intro w hw
  by_cases e1 : w = .isRef (.static Bundle.tN "UNASSIGNED_STACK" Bundle.steD)
  · rw [e1]; exact hU
  · by_cases e2 : w = .isRef (.static Bundle.tN "SUPPRESSED_SENTINEL" Bundle.listD)
    · rw [e2]; exact hN
    · by_cases e3 : w = .laysStatic Bundle.tN "UNASSIGNED_STACK" Bundle.steD
      · rw [e3]; exact lU
      · by_cases e4 : w = .laysStatic Bundle.tN "SUPPRESSED_SENTINEL" Bundle.listD
        · rw [e4]; exact lN
        · exact h1 w (List.mem_filter.mpr ⟨hw, by unfold vx_no; rw [decide_eq_true e1, decide_eq_true e2, decide_eq_true e3, decide_eq_true e4]; rfl⟩)
/-- where a static field lies, its class's statics cell in H -/
def vx_L (C n d : String) (A : Nat → Prop) (U : State) (H : Heap) : Prop := ∃ (c : ClassId) (k : Class) (i : Nat) (f : Field) (a : Nat) (cell : Cell), U.vm.findClass C = some c ∧ U.fieldFound? C n d = some (c, k, i, f) ∧ f.isStatic = true ∧ k.statics = some a ∧ H[a]? = some cell ∧ cell.vm.isStatics = true ∧ cell.cls = c ∧ f.slot < cell.slots.size ∧ k.staticTypes[f.slot]? = some f.type ∧ ¬ A a
theorem vx_L.moved {C n d : String} {A : Nat → Prop} {u U : State} {H : Heap} (hvm : u.vm.Alike U.vm) (h : vx_L C n d A u H) : vx_L C n d A U H := by
  obtain ⟨c, k, i, f, a, cell, h1, h2, h3, h4, h5, h6, h7, h8, h9, h10⟩ := h
  obtain ⟨k', hi', he⟩ := State.fieldFound?_setVm hvm h2
  exact ⟨c, k', i, f, a, cell, by rw [hvm.findClass]; exact h1, hi', h3, by rw [he]; exact h4, h5, h6, h7, h8, by rw [he]; exact h9, h10⟩
theorem vx_L.kept {C n d : String} {A : Nat → Prop} {U : State} {H H1 : Heap} (h : vx_L C n d A U H) (hq : ∀ a : Nat, a < H.size → ¬ A a → H1[a]? = H[a]?) : vx_L C n d A U H1 := by
  obtain ⟨c, k, i, f, a, cell, h1, h2, h3, h4, h5, h6, h7, h8, h9, h10⟩ := h
  exact ⟨c, k, i, f, a, cell, h1, h2, h3, h4, by rw [hq a (Array.getElem?_eq_some_iff.mp h5).1 h10]; exact h5, h6, h7, h8, h9, h10⟩
theorem vx_L.narrow {C n d : String} {A B : Nat → Prop} {U : State} {H : Heap} (h : vx_L C n d A U H) (hAB : ∀ q, B q → A q) : vx_L C n d B U H := by
  obtain ⟨c, k, i, f, a, cell, h1, h2, h3, h4, h5, h6, h7, h8, h9, h10⟩ := h
  exact ⟨c, k, i, f, a, cell, h1, h2, h3, h4, h5, h6, h7, h8, h9, fun z => h10 (hAB _ z)⟩
theorem vx_L.word {C n d : String} {A : Nat → Prop} {s : State} {args : Array Value} (h : vx_L C n d A s s.heap) : (Cond.laysStatic C n d).before args s = true := by
  obtain ⟨c, k, i, f, a, cell, h1, h2, h3, h4, h5, h6, h7, h8, h9, -⟩ := h
  show (Cond.laysStatic C n d).holds args s none s [] = true
  exact Cond.laysStatic_of h1 h2 h3 h4 h5 h6 h7 h8 h9
/-- .. and what it holds: null or some reference -/
def vx_Zq (C n d : String) (A : Nat → Prop) (U : State) (H : Heap) : Prop := va_Zq C n d A U H ∧ vx_L C n d A U H
theorem vx_Zq.moved {C n d : String} {A : Nat → Prop} {u U : State} {H : Heap} (hvm : u.vm.Alike U.vm) (h : vx_Zq C n d A u H) : vx_Zq C n d A U H := ⟨va_Zq.moved hvm h.1, vx_L.moved hvm h.2⟩
theorem vx_Zq.kept {C n d : String} {A : Nat → Prop} {U : State} {H H1 : Heap} (h : vx_Zq C n d A U H) (hq : ∀ a : Nat, a < H.size → ¬ A a → H1[a]? = H[a]?) : vx_Zq C n d A U H1 := ⟨va_Zq.kept h.1 hq, vx_L.kept h.2 hq⟩
theorem vx_Zq.narrow {C n d : String} {A B : Nat → Prop} {U : State} {H : Heap} (h : vx_Zq C n d A U H) (hAB : ∀ q, B q → A q) : vx_Zq C n d B U H := ⟨va_Zq.narrow h.1 hAB, vx_L.narrow h.2 hAB⟩
theorem vx_Zqof {args : Array Value} {s : State} {C n d : String} {A : Nat → Prop} (hl : (Cond.laysStatic C n d).before args s = true) (hini : (Cond.initialized C).before args s = true) (h : (Cond.isRef (.static C n d)).before args s = true) (hA : ∀ a : Nat, a < s.heap.size → ¬ A a) : vx_Zq C n d A s s.heap := by
  refine ⟨va_Zqof hl hini h hA, ?_⟩
  obtain ⟨c, k, i, f, a, cell, h1, h2, h3, h4, h5, h6, h7, h8, h9⟩ := Cond.laysStatic_spec hl
  exact ⟨c, k, i, f, a, cell, h1, h2, h3, h4, h5, h6, h7, h8, h9, hA a (Array.getElem?_eq_some_iff.mp h5).1⟩
theorem vx_isRef {C n d : String} {v : Value} {A : Nat → Prop} {s : State} {args : Array Value} (h : va_Z C n d v A s s.heap) (hv : v.isRef = true) : (Cond.isRef (.static C n d)).before args s = true := by
  obtain ⟨cf, kf, fi, f, a, cell, h1, h2, h3, h4, h5, h6, h7, -⟩ := h
  have he : (Term.static C n d).eval args s none [] s = some v := by
    simp [Term.eval, State.fieldNamed?, h1, h2, h4, h5, h6, h7]
  simp only [Cond.before, Cond.holds, Cond.value, he]
  cases v <;> simp_all [Value.isRef]
theorem vx_isRefq {C n d : String} {A : Nat → Prop} {s : State} {args : Array Value} (h : va_Zq C n d A s s.heap) : (Cond.isRef (.static C n d)).before args s = true := by
  rcases h with h | ⟨t, h⟩
  · exact vx_isRef h rfl
  · exact vx_isRef h rfl
/-- the same frame, seen from here: as if the method were called anew in this heap -/
theorem vx_rebase {T : State} (X : Stand p l e R s m args below meth c T locs cells slots) {R' : Room} (hf : R'.frames ≤ R.frames) (hl : R'.locals ≤ R.locals) (hc : cells + R'.cells ≤ R.cells) (hs : slots + R'.slots ≤ R.slots) :
    Stand p l e R' ((T.setVm s.vm).setFrames (.invoking m args :: below)) m args below meth c T [] 0 0 := by
  have htop : (T.setVm s.vm).topJava?.isSome := X.here.top
  have hF : ((T.setVm s.vm).setFrames (.invoking m args :: below)).frames = .invoking m args :: below := State.frames_setFrames _ (State.cur_lt_of_top htop)
  obtain ⟨g₀, hg0⟩ := Option.isSome_iff_exists.mp htop
  obtain ⟨r, hr⟩ := State.topJava?_eq_some.mp hg0
  have hl9 : e.platform.stackLimits (T.setVm s.vm).me = e.platform.stackLimits s.me := X.limits
  have hb9 : (T.setVm s.vm).me.stackBytes = s.me.stackBytes := X.bytes
  refine ⟨X.admits, X.cas, X.clock, hF, ?_, X.hears, X.method, X.code, X.here, X.tail, X.warmed, ?_, ?_, ?_⟩
  · have h := X.room
    have hU : ((T.setVm s.vm).setFrames (.invoking m args :: below)).localsInUse = s.localsInUse := by
      rw [State.localsInUse_invoking hF (meth := meth) (c := c) X.method X.code, State.localsInUse_invoking X.frames X.method X.code]
    simp only [State.hasRoom, Bool.and_eq_true, decide_eq_true_eq] at h ⊢
    obtain ⟨⟨⟨⟨h1, h2, h3, h4, h5, h6⟩, h7⟩, h8⟩, h9⟩ := h
    rw [X.frames, List.length_cons] at h2 h3
    have q1 := X.heapSize
    have q2 := X.used
    simp only [hF, hU, List.length_cons, State.stackLimits_setFrames, State.stackBytes_setFrames, hl9, hb9]
    refine ⟨⟨⟨⟨by omega, by omega, by omega, by omega, by omega, h6⟩, ?_⟩, ?_⟩, X.book⟩
    · show T.heap.size + R'.cells ≤ e.platform.maxCells
      omega
    · show T.slotsUsed + R'.slots ≤ e.platform.maxSlots
      omega
  · rw [State.stackLimits_setFrames]; rfl
  · rw [State.stackBytes_setFrames]; rfl
  · refine ⟨?_, Nat.le_refl _, Nat.le_refl _, ?_, ?_, fun a c9 h9 => ⟨c9, h9, rfl, rfl, fun _ _ => rfl⟩⟩
    · obtain ⟨t, ht, -⟩ := State.frames_cons hr
      show T.setVm s.vm = { ((T.setVm s.vm).setFrames (.invoking m args :: below)).setFrames (T.setVm s.vm).frames with heap := T.heap, slotsUsed := T.slotsUsed }
      rw [State.setFrames_setFrames, State.setFrames_self ht]
      rfl
    · show T.slotsUsed = T.slotsUsed + ((T.heap.toList.drop T.heap.size).map (·.slots.size)).sum
      rw [List.drop_eq_nil_of_le (Nat.le_of_eq Array.length_toList)]
      rfl
    · show ((T.heap.toList.drop T.heap.size).map (·.slots.size)).sum ≤ 0
      rw [List.drop_eq_nil_of_le (Nat.le_of_eq Array.length_toList)]
      exact Nat.le_refl _
/-- 'throw new E()': new; dup; invokespecial; athrow -/
theorem vx_throw0 {cc : ByteArray} {pc : Nat} (hexec : p.tables.exec = Jvm.exec) (hb : c.code = cc) (hl : l.stackTraces = false) {own cls : String} {names : List String} {ik ic mc ms : Nat} {A : Nat → Prop}
    (hown : s.vm.findClass own = some m.cls) (hcls : Bundle.fit cls = true) (hnames : ∀ n ∈ names, Bundle.fit n = true)
    (hk : (Cond.classLink own ik cls).before args s = true) (hini : (Cond.initialized cls).before args s = true) (hat : ∀ w ∈ vx_at0 own ic cls names, w.before args s = true)
    (hgood : ∀ w ∈ Cond.classLink own ik cls :: Cond.initialized cls :: vx_at0 own ic cls names, vx_ot w = true)
    (hU : vx_Zq Bundle.tN "UNASSIGNED_STACK" Bundle.steD A s s.heap) (hN : vx_Zq Bundle.tN "SUPPRESSED_SENTINEL" Bundle.listD A s s.heap) (hS : va_S A s.heap H locs) (hsize : ls.size = c.maxLocals)
    (d0 : decode cc pc = .ok (.new ik, 3)) (d3 : decode cc (pc + 3) = .ok (.dup, 1)) (d4 : decode cc (pc + 4) = .ok (.invokespecial ic, 3)) (d7 : decode cc (pc + 7) = .ok (.athrow, 1))
    (hout : ∀ x ∈ c.exceptionTable.toList, covers x (pc + 7) = false)
    (hRframes : names.length + 3 < R.frames) (hRlocals : (rest.map fun v => v.category).sum + (13 * (names.length + 1) + 42) ≤ R.locals) (hRcells : cells + 1 ≤ R.cells) (hRslots : slots + 6 ≤ R.slots) (hlocks : meth.locks = false)
    (hx : ∀ t : State, s.vm.Alike t.vm → H.size ≤ t.heap.size → (∀ q : Nat, q < H.size → t.heap[q]? = H[q]?) → XC cls s t)
    (hf : ∀ z ∈ locs, free z.base) (hc : cells + 1 ≤ mc) (hs : slots + 6 ≤ ms) :
    W p l e R s m args below meth c H locs cells slots (vx_MQ below Qc XC args s mc ms free) (F0 m pc ls rest) := by
  intro T hT X
  have htr : e.platform.stackTraces = false := (show e.platform.stackTraces = l.stackTraces by rw [X.admits.platform]).trans hl
  have Y := vx_rebase X (R' := { frames := R.frames, locals := R.locals, cells := 1, slots := 6 }) (Nat.le_refl _) (Nat.le_refl _) hRcells hRslots
  obtain ⟨s', hA⟩ : ∃ z, z = (T.setVm s.vm).setFrames (.invoking m args :: below) := ⟨_, rfl⟩
  rw [← hA] at Y
  have hvm : s'.vm = s.vm := by rw [hA]; rfl
  have hhp : s'.heap = H := by rw [hA]; exact hT
  have hW0 : s.WarmedH s'.vm := by rw [hvm]; exact State.WarmedH.refl s
  have hat' : ∀ w ∈ vx_at0 own ic cls names, w.before args s' = true := fun w hw => vx_ot_at hW0 hvm.symm (hgood w (List.mem_cons_of_mem _ (List.mem_cons_of_mem _ hw))) (hat w hw)
  have hk' : (Cond.classLink own ik cls).before args s' = true := vx_ot_at hW0 hvm.symm (hgood _ List.mem_cons_self) hk
  have hini' : (Cond.initialized cls).before args s' = true := vx_ot_at hW0 hvm.symm (hgood _ (List.mem_cons_of_mem _ List.mem_cons_self)) hini
  have hU' : vx_Zq Bundle.tN "UNASSIGNED_STACK" Bundle.steD A s' s'.heap := by rw [hhp]; exact vx_Zq.moved hW0.alike (hU.kept hS.2.1)
  have hN' : vx_Zq Bundle.tN "SUPPRESSED_SENTINEL" Bundle.listD A s' s'.heap := by rw [hhp]; exact vx_Zq.moved hW0.alike (hN.kept hS.2.1)
  have h : ∀ w ∈ Bundle.ownAtoms0 own ic cls names, w.before args s' = true := vx_own hat' (vx_isRefq hU'.1) (vx_isRefq hN'.1) hU'.2.word hN'.2.word
  have hown' : s'.vm.findClass own = some m.cls := by rw [hvm]; exact hown
  have hins : (Cond.instantiable cls 6).before args s' = true := h _ (by simp [Bundle.ownAtoms0])
  obtain ⟨vm₁, cX, kX, hfX, hkX, -, -, X₁, st1⟩ := Y.newCold hexec (own := own) (C := cls) (index := ik) (n := 6) hown' hk' hins hini'
    (g := F0 m pc ls rest) rfl (by rw [hb]; exact d0) (Nat.le_refl _) (Nat.le_refl _)
  generalize hT1 : (T.setVm vm₁).pushCell { cls := cX, slots := kX.instanceTypes.map defaultValue, vm := .none } = T1 at X₁ st1
  have hcat : (Value.ref T.heap.size).category = 1 := rfl
  have hcellA : T1.heap[T.heap.size]? = some (freshCell cX kX) := by rw [← hT1]; exact State.heap_pushCell_size _ _
  have d3' : decode c.code (pc + 3) = .ok (.dup, 1) := by rw [hb]; exact d3
  obtain ⟨U, hsteps, hrun, hend, hW, hsame, ce, hce, hO⟩ := X₁.ctorThrow0 hexec htr (own := own) (cls := cls) (names := names) (ic := ic) hown' hcls hnames h (fun x hx => nomatch hx) hfX hkX hcellA (by rw [hhp, hT]; exact Nat.le_refl _)
    (g := { method := m, pc := pc + 4, locals := ls, stack := .ref T.heap.size :: .ref T.heap.size :: rest, locked := none }) rfl hsize rfl rfl (rest := rest) rfl
    (by rw [hb]; exact d4) (by rw [hb]; exact d7) hout hRframes (by simp only [List.map_cons, List.sum_cons, hcat]; omega) hlocks
  obtain ⟨f1, f2⟩ := vx_frame hsame
  rw [hhp] at f1 f2
  have hWs : s.WarmedH U.vm := State.WarmedH.trans hW0 hW
  have hcl : s.vm.findClass cls = some ce.cls := by
    have h9 := hO.cls
    rw [hvm] at h9
    exact h9
  have hall : s.sameButNew ({ U with vm := s.vm } : State) locs mc ms := by
    subst hA
    obtain ⟨e1, e2⟩ := hsame
    rw [State.setFrames_setFrames] at e1
    have h2 : (T.setVm s.vm).sameButNew ({ U with vm := s.vm } : State) [] (0 + 1) (0 + 6) := ⟨e1, e2⟩
    have h3 := X.same.trans h2
    rw [List.append_nil] at h3
    exact h3.mono hc hs
  refine ⟨U, ?_, .threw T.heap.size, hrun, hend, Or.inr ⟨T.heap.size, rfl, cls, ce, locs, hx U hWs.alike f1 (fun q hq => f2 q hq (fun z hz => nomatch hz)), hce, hO.vm, hcl, hWs, hall, hf⟩⟩
  refine st1 _ ?_
  show Steps p.tables e below (T1.setTop { method := m, pc := pc + 3, locals := ls, stack := .ref T.heap.size :: rest, locked := none }) _
  jvm_step X₁.here [X₁.here.top, hexec, d3', Value.category]
  exact hsteps
/-- 'throw new E("text")': new; dup; ldc; invokespecial; athrow -/
theorem vx_throwS {cc : ByteArray} {pc : Nat} (hexec : p.tables.exec = Jvm.exec) (hb : c.code = cc) (hl : l.stackTraces = false) {own cls text : String} {names : List String} {ik is ic mc ms sa : Nat} {A : Nat → Prop}
    (hown : s.vm.findClass own = some m.cls) (hcls : Bundle.fit cls = true) (hnames : ∀ n ∈ names, Bundle.fit n = true)
    (hk : (Cond.classLink own ik cls).before args s = true) (hini : (Cond.initialized cls).before args s = true) (hstr : vk_R own is text sa s) (hat : ∀ w ∈ vx_atS own ic cls names, w.before args s = true)
    (hgood : ∀ w ∈ Cond.classLink own ik cls :: Cond.initialized cls :: vx_atS own ic cls names, vx_ot w = true)
    (hU : vx_Zq Bundle.tN "UNASSIGNED_STACK" Bundle.steD A s s.heap) (hN : vx_Zq Bundle.tN "SUPPRESSED_SENTINEL" Bundle.listD A s s.heap) (hS : va_S A s.heap H locs) (hsize : ls.size = c.maxLocals)
    (d0 : decode cc pc = .ok (.new ik, 3)) (d3 : decode cc (pc + 3) = .ok (.dup, 1)) (d4 : decode cc (pc + 4) = .ok (.ldc is, 2)) (d6 : decode cc (pc + 6) = .ok (.invokespecial ic, 3)) (d9 : decode cc (pc + 9) = .ok (.athrow, 1))
    (hout : ∀ x ∈ c.exceptionTable.toList, covers x (pc + 9) = false)
    (hRframes : names.length + 3 < R.frames) (hRlocals : (rest.map fun v => v.category).sum + (13 * (names.length + 1) + 43) ≤ R.locals) (hRcells : cells + 1 ≤ R.cells) (hRslots : slots + 6 ≤ R.slots) (hlocks : meth.locks = false)
    (hx : ∀ t : State, s.vm.Alike t.vm → H.size ≤ t.heap.size → (∀ q : Nat, q < H.size → t.heap[q]? = H[q]?) → XC cls s t)
    (hf : ∀ z ∈ locs, free z.base) (hc : cells + 1 ≤ mc) (hs : slots + 6 ≤ ms) :
    W p l e R s m args below meth c H locs cells slots (vx_MQ below Qc XC args s mc ms free) (F0 m pc ls rest) := by
  intro T hT X
  have htr : e.platform.stackTraces = false := (show e.platform.stackTraces = l.stackTraces by rw [X.admits.platform]).trans hl
  have Y := vx_rebase X (R' := { frames := R.frames, locals := R.locals, cells := 1, slots := 6 }) (Nat.le_refl _) (Nat.le_refl _) hRcells hRslots
  obtain ⟨s', hA⟩ : ∃ z, z = (T.setVm s.vm).setFrames (.invoking m args :: below) := ⟨_, rfl⟩
  rw [← hA] at Y
  have hvm : s'.vm = s.vm := by rw [hA]; rfl
  have hhp : s'.heap = H := by rw [hA]; exact hT
  have hW0 : s.WarmedH s'.vm := by rw [hvm]; exact State.WarmedH.refl s
  have hat' : ∀ w ∈ vx_atS own ic cls names, w.before args s' = true := fun w hw => vx_ot_at hW0 hvm.symm (hgood w (List.mem_cons_of_mem _ (List.mem_cons_of_mem _ hw))) (hat w hw)
  have hk' : (Cond.classLink own ik cls).before args s' = true := vx_ot_at hW0 hvm.symm (hgood _ List.mem_cons_self) hk
  have hini' : (Cond.initialized cls).before args s' = true := vx_ot_at hW0 hvm.symm (hgood _ (List.mem_cons_of_mem _ List.mem_cons_self)) hini
  have hU' : vx_Zq Bundle.tN "UNASSIGNED_STACK" Bundle.steD A s' s'.heap := by rw [hhp]; exact vx_Zq.moved hW0.alike (hU.kept hS.2.1)
  have hN' : vx_Zq Bundle.tN "SUPPRESSED_SENTINEL" Bundle.listD A s' s'.heap := by rw [hhp]; exact vx_Zq.moved hW0.alike (hN.kept hS.2.1)
  have h : ∀ w ∈ Bundle.ownAtoms own ic cls names, w.before args s' = true := vx_own hat' (vx_isRefq hU'.1) (vx_isRefq hN'.1) hU'.2.word hN'.2.word
  have hown' : s'.vm.findClass own = some m.cls := by rw [hvm]; exact hown
  have hins : (Cond.instantiable cls 6).before args s' = true := h _ (by simp [Bundle.ownAtoms])
  obtain ⟨vm₁, cX, kX, hfX, hkX, -, -, X₁, st1⟩ := Y.newCold hexec (own := own) (C := cls) (index := ik) (n := 6) hown' hk' hins hini'
    (g := F0 m pc ls rest) rfl (by rw [hb]; exact d0) (Nat.le_refl _) (Nat.le_refl _)
  generalize hT1 : (T.setVm vm₁).pushCell { cls := cX, slots := kX.instanceTypes.map defaultValue, vm := .none } = T1 at X₁ st1
  have hcat : (Value.ref T.heap.size).category = 1 := rfl
  have hcellA : T1.heap[T.heap.size]? = some (freshCell cX kX) := by rw [← hT1]; exact State.heap_pushCell_size _ _
  have d3' : decode c.code (pc + 3) = .ok (.dup, 1) := by rw [hb]; exact d3
  have d4' : decode c.code (pc + 4) = .ok (.ldc is, 2) := by rw [hb]; exact d4
  have hstr' : vk_R own is text sa s' := vk_R.warm hW0 hstr
  obtain ⟨U, hsteps, hrun, hend, hW, hsame, ce, hce, hO⟩ := X₁.ctorThrowS hexec htr (own := own) (cls := cls) (names := names) (ic := ic) hown' hcls hnames h (fun x hx => nomatch hx) hfX hkX hcellA (by rw [hhp, hT]; exact Nat.le_refl _) (msg := .ref sa) rfl
    (g := { method := m, pc := pc + 6, locals := ls, stack := .ref sa :: .ref T.heap.size :: .ref T.heap.size :: rest, locked := none }) rfl hsize rfl rfl (rest := rest) rfl
    (by rw [hb]; exact d6) (by rw [hb]; exact d9) hout hRframes (by simp only [List.map_cons, List.sum_cons, hcat]; omega) hlocks
  obtain ⟨f1, f2⟩ := vx_frame hsame
  rw [hhp] at f1 f2
  have hWs : s.WarmedH U.vm := State.WarmedH.trans hW0 hW
  have hcl : s.vm.findClass cls = some ce.cls := by
    have h9 := hO.cls
    rw [hvm] at h9
    exact h9
  have hall : s.sameButNew ({ U with vm := s.vm } : State) locs mc ms := by
    subst hA
    obtain ⟨e1, e2⟩ := hsame
    rw [State.setFrames_setFrames] at e1
    have h2 : (T.setVm s.vm).sameButNew ({ U with vm := s.vm } : State) [] (0 + 1) (0 + 6) := ⟨e1, e2⟩
    have h3 := X.same.trans h2
    rw [List.append_nil] at h3
    exact h3.mono hc hs
  refine ⟨U, ?_, .threw T.heap.size, hrun, hend, Or.inr ⟨T.heap.size, rfl, cls, ce, locs, hx U hWs.alike f1 (fun q hq => f2 q hq (fun z hz => nomatch hz)), hce, hO.vm, hcl, hWs, hall, hf⟩⟩
  refine st1 _ ?_
  show Steps p.tables e below (T1.setTop { method := m, pc := pc + 3, locals := ls, stack := .ref T.heap.size :: rest, locked := none }) _
  jvm_step X₁.here [X₁.here.top, hexec, d3', Value.category]
  exact X₁.ldcString hexec (own := own) (text := text) (index := is) (a := sa) hown' hstr'.1 hstr'.2
    (g := { method := m, pc := pc + 4, locals := ls, stack := .ref T.heap.size :: .ref T.heap.size :: rest, locked := none }) rfl d4' _ hsteps
/-- 'throw new E("text")', the text by a wide index -/
theorem vx_throwSW {cc : ByteArray} {pc : Nat} (hexec : p.tables.exec = Jvm.exec) (hb : c.code = cc) (hl : l.stackTraces = false) {own cls text : String} {names : List String} {ik is ic mc ms sa : Nat} {A : Nat → Prop}
    (hown : s.vm.findClass own = some m.cls) (hcls : Bundle.fit cls = true) (hnames : ∀ n ∈ names, Bundle.fit n = true)
    (hk : (Cond.classLink own ik cls).before args s = true) (hini : (Cond.initialized cls).before args s = true) (hstr : vk_R own is text sa s) (hat : ∀ w ∈ vx_atS own ic cls names, w.before args s = true)
    (hgood : ∀ w ∈ Cond.classLink own ik cls :: Cond.initialized cls :: vx_atS own ic cls names, vx_ot w = true)
    (hU : vx_Zq Bundle.tN "UNASSIGNED_STACK" Bundle.steD A s s.heap) (hN : vx_Zq Bundle.tN "SUPPRESSED_SENTINEL" Bundle.listD A s s.heap) (hS : va_S A s.heap H locs) (hsize : ls.size = c.maxLocals)
    (d0 : decode cc pc = .ok (.new ik, 3)) (d3 : decode cc (pc + 3) = .ok (.dup, 1)) (d4 : decode cc (pc + 4) = .ok (.ldc_w is, 3)) (d7 : decode cc (pc + 7) = .ok (.invokespecial ic, 3)) (d10 : decode cc (pc + 10) = .ok (.athrow, 1))
    (hout : ∀ x ∈ c.exceptionTable.toList, covers x (pc + 10) = false)
    (hRframes : names.length + 3 < R.frames) (hRlocals : (rest.map fun v => v.category).sum + (13 * (names.length + 1) + 43) ≤ R.locals) (hRcells : cells + 1 ≤ R.cells) (hRslots : slots + 6 ≤ R.slots) (hlocks : meth.locks = false)
    (hx : ∀ t : State, s.vm.Alike t.vm → H.size ≤ t.heap.size → (∀ q : Nat, q < H.size → t.heap[q]? = H[q]?) → XC cls s t)
    (hf : ∀ z ∈ locs, free z.base) (hc : cells + 1 ≤ mc) (hs : slots + 6 ≤ ms) :
    W p l e R s m args below meth c H locs cells slots (vx_MQ below Qc XC args s mc ms free) (F0 m pc ls rest) := by
  intro T hT X
  have htr : e.platform.stackTraces = false := (show e.platform.stackTraces = l.stackTraces by rw [X.admits.platform]).trans hl
  have Y := vx_rebase X (R' := { frames := R.frames, locals := R.locals, cells := 1, slots := 6 }) (Nat.le_refl _) (Nat.le_refl _) hRcells hRslots
  obtain ⟨s', hA⟩ : ∃ z, z = (T.setVm s.vm).setFrames (.invoking m args :: below) := ⟨_, rfl⟩
  rw [← hA] at Y
  have hvm : s'.vm = s.vm := by rw [hA]; rfl
  have hhp : s'.heap = H := by rw [hA]; exact hT
  have hW0 : s.WarmedH s'.vm := by rw [hvm]; exact State.WarmedH.refl s
  have hat' : ∀ w ∈ vx_atS own ic cls names, w.before args s' = true := fun w hw => vx_ot_at hW0 hvm.symm (hgood w (List.mem_cons_of_mem _ (List.mem_cons_of_mem _ hw))) (hat w hw)
  have hk' : (Cond.classLink own ik cls).before args s' = true := vx_ot_at hW0 hvm.symm (hgood _ List.mem_cons_self) hk
  have hini' : (Cond.initialized cls).before args s' = true := vx_ot_at hW0 hvm.symm (hgood _ (List.mem_cons_of_mem _ List.mem_cons_self)) hini
  have hU' : vx_Zq Bundle.tN "UNASSIGNED_STACK" Bundle.steD A s' s'.heap := by rw [hhp]; exact vx_Zq.moved hW0.alike (hU.kept hS.2.1)
  have hN' : vx_Zq Bundle.tN "SUPPRESSED_SENTINEL" Bundle.listD A s' s'.heap := by rw [hhp]; exact vx_Zq.moved hW0.alike (hN.kept hS.2.1)
  have h : ∀ w ∈ Bundle.ownAtoms own ic cls names, w.before args s' = true := vx_own hat' (vx_isRefq hU'.1) (vx_isRefq hN'.1) hU'.2.word hN'.2.word
  have hown' : s'.vm.findClass own = some m.cls := by rw [hvm]; exact hown
  have hins : (Cond.instantiable cls 6).before args s' = true := h _ (by simp [Bundle.ownAtoms])
  obtain ⟨vm₁, cX, kX, hfX, hkX, -, -, X₁, st1⟩ := Y.newCold hexec (own := own) (C := cls) (index := ik) (n := 6) hown' hk' hins hini'
    (g := F0 m pc ls rest) rfl (by rw [hb]; exact d0) (Nat.le_refl _) (Nat.le_refl _)
  generalize hT1 : (T.setVm vm₁).pushCell { cls := cX, slots := kX.instanceTypes.map defaultValue, vm := .none } = T1 at X₁ st1
  have hcat : (Value.ref T.heap.size).category = 1 := rfl
  have hcellA : T1.heap[T.heap.size]? = some (freshCell cX kX) := by rw [← hT1]; exact State.heap_pushCell_size _ _
  have d3' : decode c.code (pc + 3) = .ok (.dup, 1) := by rw [hb]; exact d3
  have d4' : decode c.code (pc + 4) = .ok (.ldc_w is, 3) := by rw [hb]; exact d4
  have hstr' : vk_R own is text sa s' := vk_R.warm hW0 hstr
  obtain ⟨U, hsteps, hrun, hend, hW, hsame, ce, hce, hO⟩ := X₁.ctorThrowS hexec htr (own := own) (cls := cls) (names := names) (ic := ic) hown' hcls hnames h (fun x hx => nomatch hx) hfX hkX hcellA (by rw [hhp, hT]; exact Nat.le_refl _) (msg := .ref sa) rfl
    (g := { method := m, pc := pc + 7, locals := ls, stack := .ref sa :: .ref T.heap.size :: .ref T.heap.size :: rest, locked := none }) rfl hsize rfl rfl (rest := rest) rfl
    (by rw [hb]; exact d7) (by rw [hb]; exact d10) hout hRframes (by simp only [List.map_cons, List.sum_cons, hcat]; omega) hlocks
  obtain ⟨f1, f2⟩ := vx_frame hsame
  rw [hhp] at f1 f2
  have hWs : s.WarmedH U.vm := State.WarmedH.trans hW0 hW
  have hcl : s.vm.findClass cls = some ce.cls := by
    have h9 := hO.cls
    rw [hvm] at h9
    exact h9
  have hall : s.sameButNew ({ U with vm := s.vm } : State) locs mc ms := by
    subst hA
    obtain ⟨e1, e2⟩ := hsame
    rw [State.setFrames_setFrames] at e1
    have h2 : (T.setVm s.vm).sameButNew ({ U with vm := s.vm } : State) [] (0 + 1) (0 + 6) := ⟨e1, e2⟩
    have h3 := X.same.trans h2
    rw [List.append_nil] at h3
    exact h3.mono hc hs
  refine ⟨U, ?_, .threw T.heap.size, hrun, hend, Or.inr ⟨T.heap.size, rfl, cls, ce, locs, hx U hWs.alike f1 (fun q hq => f2 q hq (fun z hz => nomatch hz)), hce, hO.vm, hcl, hWs, hall, hf⟩⟩
  refine st1 _ ?_
  show Steps p.tables e below (T1.setTop { method := m, pc := pc + 3, locals := ls, stack := .ref T.heap.size :: rest, locked := none }) _
  jvm_step X₁.here [X₁.here.top, hexec, d3', Value.category]
  exact X₁.ldcStringW hexec (own := own) (text := text) (index := is) (a := sa) hown' hstr'.1 hstr'.2
    (g := { method := m, pc := pc + 4, locals := ls, stack := .ref T.heap.size :: .ref T.heap.size :: rest, locked := none }) rfl d4' _ hsteps
end Ends
section Bodies
variable {l : Launch}
theorem vx_ofW {y : MethodName} {ws ws' : List Cond} {rm : Room} {Pc : Array Value → State → Prop} {Qc : Array Value → State → Outcome → State → Prop} {XC : String → State → State → Prop} {mc ms : Nat} {free : Addr → Prop} {cc : ByteArray} {maxL : Nat} {ret : Option FieldType}
    (hy : plainName y.cls = true) (hw : ws = Cond.code y cc maxL ret :: ws')
    (body : ∀ p e s m args below meth c s₁, BodyLoose p l y (headSpec ws rm) cc maxL ret e s m args below meth c s₁ → c.maxLocals = maxL → (∀ x ∈ c.exceptionTable.toList, False) → Pc args s →
      W p l e (headSpec ws rm).room s m args below meth c s.heap [] 0 0 (vx_MQ below Qc XC args s mc ms free) (entryFrame m args maxL)) : vx_Met l y ws rm Pc Qc XC mc ms free := by
  refine MetFree.of_bodyS (code := cc) (maxLocals := maxL) (ret := ret) hy ?_ ?_
  · intro args s m h hn
    obtain ⟨meth, c, h1, h2, h3, h4, h5, h6, -, -⟩ := Cond.code_spec hn (atoms_spec (ws := ws) h _ (by rw [hw]; exact List.mem_cons_self))
    exact ⟨meth, c, h1, h2, h3, h4, h5, h6⟩
  · intro p e s m args below meth c s₁ B hml hP _
    have hh0 : s₁.heap = s.heap := by rw [B.state]; rfl
    have ht : ∀ x ∈ c.exceptionTable.toList, False := by
      obtain ⟨meth9, c9, h1, h2, -, -, -, -, h7, -⟩ := Cond.code_spec B.named (atoms_spec (ws := ws) B.pre _ (by rw [hw]; exact List.mem_cons_self))
      cases Option.some.inj (h1.symm.trans B.method)
      cases Option.some.inj (h2.symm.trans (Stand.of_body B).code)
      intro x hx
      rw [Array.isEmpty_iff.mp h7] at hx
      cases hx
    obtain ⟨t, a1, o, b1, b2, b3⟩ := body p e s m args below meth c s₁ B hml ht hP s₁ hh0 (Stand.of_body B)
    exact ⟨t, o, a1, b1, b2, b3⟩
/-- the table of a body with handlers -/
theorem vx_table {p : Program} {x y : MethodName} {S : Spec} {cc bytes : ByteArray} {maxL maxL' : Nat} {ret ret' : Option FieldType} {e : Env} {s s₁ : State} {m : MethodId} {args : Array Value} {below : List Frame} {meth : Method} {c : Code} {hh : List (Nat × Nat × Nat × Nat)}
    (B : BodyLoose p l y S cc maxL ret e s m args below meth c s₁) (h : (Cond.codeWith y bytes maxL' ret' hh).before args s = true) : c.exceptionTable.toList = tableOf hh := by
  obtain ⟨m9, meth9, c9, hn9, h1, h2, -, -, h6, -⟩ := Cond.codeWith_spec h
  cases Option.some.inj (hn9.symm.trans B.named)
  cases Option.some.inj (h1.symm.trans B.method)
  cases Option.some.inj (h2.symm.trans (Stand.of_body B).code)
  rw [← h6, table_eq]
end Bodies
end VXA
/-! ===== END ===== -/
/-! ===== BEGIN a static call of a method with an exception table ===== -/
section VXS
variable {p : Program} {l : Launch} {e : Env} {R : Room} {s : State} {m : MethodId} {args : Array Value} {below : List Frame} {meth : Method} {c : Code} {T : State} {H : Heap} {locs : List Loc} {cells slots : Nat}
abbrev vx_CSW (R : Room) (s : State) (args : Array Value) (own : String) (index : Nat) (y : MethodName) (bytes : ByteArray) (maxL : Nat) (ret : Option FieldType) (hh : List (Nat × Nat × Nat × Nat)) (ws : List Cond) (rm : Room) (mc ms n : Nat) : Prop :=
  (rm.cells = mc ∧ rm.slots = ms ∧ rm.frames + 1 ≤ R.frames ∧ 8 + (maxL + 11) + rm.locals ≤ R.locals ∧ (∀ w ∈ ws, ∀ (a' : Array Value) (U : State), s.WarmedH U.vm → w.before a' U = true) ∧ Cond.codeWith y bytes maxL ret hh ∈ ws) ∧
  (Cond.codeWith y bytes maxL ret hh).before args s = true ∧ (Cond.initialized y.cls).before args s = true ∧ (y.cls ≠ "java/lang/invoke/MethodHandle" ∧ y.cls ≠ "java/lang/invoke/VarHandle") ∧
  (∀ sig, parseMethodDescriptor y.desc = some sig → n = sig.parameters.length) ∧ (Cond.methodLink own index y).before args s = true ∧ (Cond.static y).before args s = true
theorem vx_cwSW {own : String} {index maxL mc ms : Nat} {y : MethodName} {bytes : ByteArray} {ret : Option FieldType} {hh : List (Nat × Nat × Nat × Nat)} {Ts ws ws' : List Cond} {rm : Room} (n : Nat) (ht : ∀ w ∈ Ts, w.before args s = true) (hT : GoodIn Ts (va_wsS own index y ws)) (hw : ws = Cond.codeWith y bytes maxL ret hh :: ws') (hrc : rm.cells = mc) (hrs : rm.slots = ms)
    (hd : y.cls ≠ "java/lang/invoke/MethodHandle" ∧ y.cls ≠ "java/lang/invoke/VarHandle" ∧ (parseMethodDescriptor y.desc).map (fun d => d.parameters.length) = some n) (hR : rm.frames + 1 ≤ R.frames ∧ 8 + (maxL + 11) + rm.locals ≤ R.locals) :
    vx_CSW R s args own index y bytes maxL ret hh ws rm mc ms n := by
  have ok : ∀ w ∈ va_wsS own index y ws, w.before args s = true := fun w h => ht w (hT w h).1
  have hG : GoodIn Ts ws := fun w h => hT w (by unfold va_wsS; exact List.mem_append_right _ h)
  have hc : Cond.codeWith y bytes maxL ret hh ∈ ws := by rw [hw]; exact List.mem_cons_self
  refine ⟨⟨hrc, hrs, hR.1, hR.2, pay_in ht hG, hc⟩, ht _ (hG _ hc).1, ok _ (by simp [va_wsS]), ⟨hd.1, hd.2.1⟩, fun sig h => ?_, ok _ (by simp [va_wsS]), ok _ (by simp [va_wsS])⟩
  have h2 := hd.2.2
  rw [h] at h2
  exact (Option.some.inj h2).symm
theorem vx_callSW (X : Stand p l e R s m args below meth c T locs cells slots) (hexec : p.tables.exec = Jvm.exec) {own : String} {index : Nat} {y : MethodName} {bytes : ByteArray} {maxL : Nat} {ret : Option FieldType} {hh : List (Nat × Nat × Nat × Nat)}
    (hown : s.vm.findClass own = some m.cls) (hlink : (Cond.methodLink own index y).before args s = true) (hstat : (Cond.static y).before args s = true) (hinit : (Cond.initialized y.cls).before args s = true)
    (hcode : (Cond.codeWith y bytes maxL ret hh).before args s = true) (hy : y.cls ≠ "java/lang/invoke/MethodHandle" ∧ y.cls ≠ "java/lang/invoke/VarHandle")
    {W9 : Nat} {Pre : Pt → Array Value → Prop} {Post : Pt → Array Value → Option Value → Pt → Prop} (hK : Back l R p e below s args y 3 W9 Pre Post)
    {g : JFrame} (hg : g.method = m) (hsize : g.locals.size = c.maxLocals) {argsL rest : List Value} (hlen : ∀ sig, parseMethodDescriptor y.desc = some sig → argsL.length = sig.parameters.length)
    (hstack : g.stack = argsL.reverse ++ rest) (hW : 2 * g.monitorRoom + (rest.map fun v => v.category).sum ≤ W9) (hdg : decode c.code g.pc = .ok (.invokestatic index, 3))
    (hpre : ∀ vm₁, s.WarmedH vm₁ → Pre ⟨T.setVm vm₁, locs, cells, slots⟩ argsL.toArray) :
    ∃ (v : Option Value) (vm₁ : Vm) (B : Pt), s.WarmedH vm₁ ∧ Stand p l e R s m args below meth c B.U B.locs B.cells B.slots ∧ Post ⟨T.setVm vm₁, locs, cells, slots⟩ argsL.toArray v B ∧
      ∀ target, Steps p.tables e below (B.U.setTop { g with pc := g.pc + 3, stack := v.toList ++ rest }) target → Steps p.tables e below (T.setTop g) target := by
  obtain ⟨mk, methM, cM, hnamed, hmethM, -, -, -, -, -, -, hsigM⟩ := Cond.codeWith_spec hcode
  have hstatic : methM.isStatic = true := Cond.static_spec hnamed hmethM hstat
  obtain ⟨kP, hkP, -⟩ := className_of_methodNamed hnamed
  have hinitP : kP.init = .initialized := Cond.initialized_spec (findClass_of_methodNamed hnamed) hkP hinit
  obtain ⟨vm₁, X₁, hstep₁⟩ := X.invokestatic hexec hown hlink hnamed hmethM hstatic hkP hinitP hy (g := g) hg (argsL := argsL) (rest := rest) (hlen _ hsigM) hstack hdg
  obtain ⟨v, B, X', hpost, hsteps⟩ := hK m meth c ⟨T.setVm vm₁, locs, cells, slots⟩ { g with stack := rest } (.invokestatic index) mk argsL.toArray X₁ hg hsize hdg hW (X₁.named hnamed) (hpre vm₁ X₁.warmed)
  exact ⟨v, vm₁, B, X₁.warmed, X', hpost, fun target h => hstep₁ _ fun acts => by rw [doInvoke_state]; exact hsteps.trans h⟩
theorem vx_runSW {y : MethodName} {bytes cc : ByteArray} {maxL nL mc ms n index : Nat} {ret : Option FieldType} {hh : List (Nat × Nat × Nat × Nat)} {ws : List Cond} {rm : Room} {Pc : Array Value → State → Prop} {Qc : Array Value → State → Outcome → State → Prop} {free : Addr → Prop} {Ts : List Cond} {own : String} {As rest : List Value} {g : JFrame}
    (S : CallFix p m c cc nL s args Ts own) (hM : Met l y ws rm Pc Qc mc ms free) (cw : vx_CSW R s args own index y bytes maxL ret hh ws rm mc ms n) (hp : PreS s H Pc As)
    (hg : g.method = m) (hn : As.length = n) (hsize : g.locals.size = nL) (hstack : g.stack = As.reverse ++ rest) (hW : 2 * g.monitorRoom + (rest.map fun v => v.category).sum ≤ 8) (hdg : decode cc g.pc = .ok (.invokestatic index, 3)) (hf : cells + mc ≤ R.cells ∧ slots + ms ≤ R.slots) :
    va_Run p l e R s m args below meth c H locs cells slots mc ms g rest (Qc As.toArray) (free) := by
  obtain ⟨⟨hrc, hrs, hfr, hlo, hws, hcw⟩, hcode, hini, hy, hlen, hl, hstt⟩ := cw
  have hK : Back l R p e below s args y 3 8 (PreOf R mc ms Pc) (PostOf Qc mc ms free) := va_backW (hh := hh) (bytes := bytes) (maxL := maxL) (ret := ret) hM hp.1 hrc hrs hfr hlo hws hcw (fun a' U hW => word_at hW (Or.inl (by first | rfl | simp [Cond.onTables, Cond.keeps, Cond.steady])) hini)
  obtain ⟨hx, hb, hml, ho, -⟩ := S
  intro T hT X
  obtain ⟨v, vm₁, ⟨U', l2, c2, s2⟩, hW₁, X', ⟨g', mk, t, L, e1, e2, hq, h1, hL, h2, h3⟩, st⟩ := vx_callSW X hx (hh := hh) (bytes := bytes) (maxL := maxL) (ret := ret) ho hl hstt hini hcode hy hK hg (hsize.trans hml.symm) (argsL := As) (rest := rest) (fun sig h => hn.trans (hlen sig h)) hstack hW (by rw [hb]; exact hdg)
    (fun vm₁ hW₁ => ⟨hf.1, hf.2, hp.2 (T.setVm vm₁) hT hW₁⟩)
  dsimp only [Pt.U, Pt.locs, Pt.cells, Pt.slots] at X' e1 e2 h1 h2 h3 st
  subst h1; subst h2; subst h3
  exact ⟨v, (T.setVm vm₁).calling g' mk As.toArray, t, U', L, hT, X', hL, e1, e2, hq, st⟩
/-- not caught here, past rows that name other classes: it goes on to the caller -/
theorem vx_outP {p : Program} {l : Launch} {e : Env} {R : Room} {s : State} {m : MethodId} {args : Array Value} {below : List Frame} {meth : Method} {c : Code} {H : Heap} {locs : List Loc} {cells slots : Nat} {free : Addr → Prop} {ls : Array Slot} {rest : List Value} {Qc : Array Value → State → Outcome → State → Prop} {XC : String → State → State → Prop}
    {pc : Nat} {own E : String} {ce : Cell} {q : Addr} {mc ms : Nat} (hown : s.vm.findClass own = some m.cls) (hlocks : meth.locks = false)
    (hpass : ∀ z ∈ c.exceptionTable.toList, covers z pc = false ∨ (z.catchType ≠ 0 ∧ ∃ nm : String, (Cond.classLink own z.catchType nm).before args s = true ∧ va_Nc E nm s)) (hcell : H[q]? = some ce) (hv : ce.vm = .none) (hcl : s.vm.findClass E = some ce.cls)
    (hx : ∀ t : State, t.heap = H → s.vm.Alike t.vm → XC E s t) (hf : ∀ z ∈ locs, free z.base) (hc : cells ≤ mc) (hs : slots ≤ ms) :
    vx_W p l e R s m args below meth c H locs cells slots (vx_MQ below Qc XC args s mc ms free) (F0 m pc ls rest) q := by
  intro T hT X
  have hpl : e.platform.magicAccessors = ({} : Platform).magicAccessors := by rw [X.admits.platform]
  obtain ⟨vm', hW', X', st⟩ := X.outThrough hlocks q (g := F0 m pc ls rest) rfl rfl rfl (cell := ce) (by rw [hT]; exact hcell) (by rw [hv]; rfl)
    (by obtain ⟨k9, h9, -⟩ := Vm.findClass_spec hcl; exact ⟨k9, h9⟩) (fun z hz => by
      rcases hpass z hz with h | ⟨hz0, nm, hl1, hn1⟩
      · exact Or.inl h
      · obtain ⟨c6, hc6, hcl6⟩ := Cond.classLink_spec hown hl1 e.platform hpl
        obtain ⟨a8, b8, h1, h2, h3⟩ := hn1
        cases Option.some.inj (h1.symm.trans hcl)
        cases Option.some.inj (h2.symm.trans hc6)
        exact Or.inr ⟨hz0, _, hcl6, h3⟩)
  obtain ⟨g₀, hfr⟩ := X'.frames_eq
  have hcell9 : ((T.setVm vm').setFrames (.throwing q :: below)).heap[q]? = some ce := by
    show T.heap[q]? = some ce
    rw [hT]; exact hcell
  have hend : Ended ((T.setVm vm').setFrames (.throwing q :: below)) below (.threw q) := State.frames_setFrames _ (State.cur_lt_of_frames hfr)
  refine ⟨(T.setVm vm').setFrames (.throwing q :: below), ?_, .threw q, X'.here.running, hend, Or.inr ⟨q, rfl, E, ce, locs, hx _ hT (X'.ends _).1.alike, hcell9, hv, hcl, (X'.ends _).1, (X'.ends _).2.mono hc hs, hf⟩⟩
  rw [X.pushThrowing_eq]
  exact st
/-- a thing of a world lies in the heap -/
theorem vx_lt {D : va_G} {cl : List vw_C} {ws : va_W} {H1 : Heap} (h : va_P D cl ws H1) {k : Nat} {q : Nat × va_E} (hk : ws[k]? = some q) : q.1 < H1.size := (h k q hk).lt
end VXS
/-! ===== END ===== -/
/-! ===== BEGIN methods with a table of their own: called by a name, returning or throwing ===== -/
section VXH
/-! vx_backW, vx_callVX, vx_callSX, vx_callVW, vx_runVW, vx_runVX, vx_runSX, vx_ofWH follow the same proofs as their sisters above (Free/Laws.lean, Shelf42/LK1.lean); vx_outP calls Shelf42/NT130.lean (outThrough). -/
section
variable {l : Launch} {R : Room} {p : Program} {e : Env} {below : List Frame} {s : State} {sargs : Array Value} {y : MethodName} {len W9 : Nat}
theorem vx_backW {ws : List Cond} {rm : Room} {Pc : Array Value → State → Prop} {Qc : Array Value → State → Outcome → State → Prop} {XC : String → State → State → Prop} {mc ms : Nat} {free : Addr → Prop} {bytes : ByteArray} {maxL : Nat} {ret : Option FieldType} {hh : List (Nat × Nat × Nat × Nat)}
    (hM : vx_Met l y ws rm Pc Qc XC mc ms free) (hblind : FrameBlind Pc) (hrc : rm.cells = mc) (hrs : rm.slots = ms)
    (hframes : rm.frames + 1 ≤ R.frames) (hlocals : W9 + (maxL + 11) + rm.locals ≤ R.locals)
    (hws : ∀ w ∈ ws, ∀ a' U, s.WarmedH U.vm → w.before a' U = true) (hcode : Cond.codeWith y bytes maxL ret hh ∈ ws) (hinit : ∀ a' U, s.WarmedH U.vm → (Cond.initialized y.cls).before a' U = true) :
    vx_Back l R p e below s sargs y len W9 (PreOf R mc ms Pc) (PostOf Qc mc ms free) (vx_Post XC mc ms free) := by
  intro m meth c A g ig mk a X hg hsize hdg hW hn hp
  have h1 : (headSpec ws rm).pre.before a A.U = true := atoms_intro fun w hw => hws w hw _ _ X.warmed
  have h2 : (Cond.codeWith y bytes maxL ret hh).before a A.U = true := hws _ hcode _ _ X.warmed
  have h3 : (Cond.initialized y.cls).before a A.U = true := hinit _ _ X.warmed
  have h4 : A.cells + (headSpec ws rm).room.cells ≤ R.cells := by rw [show (headSpec ws rm).room.cells = mc from hrc]; exact hp.1
  have h5 : A.slots + (headSpec ws rm).room.slots ≤ R.slots := by rw [show (headSpec ws rm).room.slots = ms from hrs]; exact hp.2.1
  have hPc : Pc a (A.U.calling g mk a) := hblind _ _ _ _ hp.2.2
  obtain ⟨U, Ls, c0, s0⟩ := A
  dsimp only [Pt.U, Pt.locs, Pt.cells, Pt.slots] at h1 h2 h3 h4 h5 X hn hPc ⊢
  obtain ⟨m9, methY, cY, hn9, hmY, hcY, -, hlY, -⟩ := Cond.codeWith_spec h2
  cases Option.some.inj (hn9.symm.trans hn)
  obtain ⟨kY, hkY, -⟩ := className_of_methodNamed hn
  have hinitY : kY.init = .initialized := Cond.initialized_spec (findClass_of_methodNamed hn) hkY h3
  have h : At U g.method c below := by rw [hg]; exact X.here
  have hlocals9 : W9 + (maxL + 11) + (headSpec ws rm).room.locals ≤ R.locals := hlocals
  have happ : (headSpec ws rm).appliesLoose y e.platform (U.calling g mk a) = true :=
    Spec.appliesLoose_calling (g := g) h hdg hn hkY hinitY
      (X.room_calling (g := g) (R' := (headSpec ws rm).room) hsize hmY hcY hframes (by rw [hlY]; omega) h4 h5) h1
  obtain ⟨mid, hmid⟩ := h.above
  have hfr : (U.setTop g).frames = (.java g :: mid) ++ below := by rw [State.frames_setTop' g h.top, hmid]; rfl
  obtain ⟨o, s₂, hsteps, -, hend, hq⟩ := Steps.callFree hM p X.admits X.cas X.clock (acts := []) hfr happ hPc trivial
  have hq' : vx_Q Qc XC mc ms free a (U.calling g mk a) o s₂ := hq
  rw [State.frames_setTop' g h.top] at hend
  obtain ⟨g₀, hg0⟩ := Option.isSome_iff_exists.mp h.top
  obtain ⟨r, hr⟩ := State.topJava?_eq_some.mp hg0
  have hr' : (({ U with heap := s₂.heap, slotsUsed := s₂.slotsUsed } : State).setVm s₂.vm).frames = .java g₀ :: r := hr
  rcases hq' with ⟨hqc, L, hfe, hL⟩ | ⟨q, rfl, E, ce, L, hx, hce, hcv, hcl, hW₂, hsm, hL⟩
  · obtain ⟨⟨v, rfl⟩, hW₂, e2, q2, q3, q4, q5, q6⟩ := id hfe
    have e3 : s₂ = ({ (U.calling g mk a).setFrames s₂.frames with heap := s₂.heap, slotsUsed := s₂.slotsUsed } : State).setVm s₂.vm := by
      have : s₂ = ({ s₂ with vm := (U.calling g mk a).vm } : State).setVm s₂.vm := rfl
      rw [e2] at this
      exact this
    obtain ⟨c₂, i₂, len₂, hc₂, hd₂, hf₂⟩ := hend
    have hW' : U.WarmedH s₂.vm := hW₂
    have hcc : c₂ = c := by
      have h1 : s₂.code? g.method = U.code? g.method := by
        rw [State.code?_eq, State.code?_eq, hW'.alike.method?]
      exact Option.some.inj (hc₂.symm.trans (h1.trans h.code))
    subst hcc
    have hlen : len₂ = len := by rw [hdg] at hd₂; cases hd₂; rfl
    subst hlen
    have hs₂ : s₂ = (({ U with heap := s₂.heap, slotsUsed := s₂.slotsUsed } : State).setVm s₂.vm).setTop { g with pc := g.pc + len₂, stack := v.toList ++ g.stack } := by
      refine e3.trans ?_
      rw [hf₂, State.calling_eq h.top, State.setFrames_setFrames, State.setTop_of_frames _ hr', hr]
      rfl
    have hsame : U.sameButNew ({ U with heap := s₂.heap, slotsUsed := s₂.slotsUsed } : State) L mc ms := by
      refine ⟨?_, q2, q3, q4, q5, q6⟩
      obtain ⟨t, ht, -⟩ := State.frames_cons hr
      show ({ U with heap := s₂.heap, slotsUsed := s₂.slotsUsed } : State) = { U.setFrames U.frames with heap := s₂.heap, slotsUsed := s₂.slotsUsed }
      rw [State.setFrames_self ht]
    subst hg
    refine Or.inl ⟨v, ⟨(({ U with heap := s₂.heap, slotsUsed := s₂.slotsUsed } : State).setVm s₂.vm), Ls ++ L, c0 + mc, s0 + ms⟩,
      ⟨X.admits, X.cas, X.clock, X.frames, X.room, X.hears, X.method, X.code, (X.here.setHeapUsed s₂.heap s₂.slotsUsed).setVm hW'.alike, X.tail, State.WarmedH.trans X.warmed hW', X.limits, X.bytes, X.same.trans (hsame.setVm s.vm)⟩,
      ⟨g, mk, s₂, L, rfl, rfl, hqc, rfl, hL, rfl, rfl⟩, ?_⟩
    show Steps p.tables e below _ ((({ U with heap := s₂.heap, slotsUsed := s₂.slotsUsed } : State).setVm s₂.vm).setTop { g with pc := g.pc + len₂, stack := v.toList ++ g.stack })
    rw [← hs₂]
    exact hsteps
  · obtain ⟨e2, q2, q3, q4, q5, q6⟩ := id hsm
    have e3 : s₂ = ({ (U.calling g mk a).setFrames s₂.frames with heap := s₂.heap, slotsUsed := s₂.slotsUsed } : State).setVm s₂.vm := by
      have : s₂ = ({ s₂ with vm := (U.calling g mk a).vm } : State).setVm s₂.vm := rfl
      rw [e2] at this
      exact this
    have hf₂ : s₂.frames = .throwing q :: .java g :: U.frames.tail := hend
    have hW' : U.WarmedH s₂.vm := hW₂
    have hs₂ : s₂ = ((({ U with heap := s₂.heap, slotsUsed := s₂.slotsUsed } : State).setVm s₂.vm).setTop g).pushFrame (.throwing q) := by
      refine e3.trans ?_
      rw [hf₂, State.calling_eq h.top, State.setFrames_setFrames, State.pushFrame, State.frames_setTop _ hr', State.setTop_of_frames _ hr', State.setFrames_setFrames, hr]
      rfl
    have hsame : U.sameButNew ({ U with heap := s₂.heap, slotsUsed := s₂.slotsUsed } : State) L mc ms := by
      refine ⟨?_, q2, q3, q4, q5, q6⟩
      obtain ⟨t, ht, -⟩ := State.frames_cons hr
      show ({ U with heap := s₂.heap, slotsUsed := s₂.slotsUsed } : State) = { U.setFrames U.frames with heap := s₂.heap, slotsUsed := s₂.slotsUsed }
      rw [State.setFrames_self ht]
    subst hg
    refine Or.inr ⟨q, ⟨(({ U with heap := s₂.heap, slotsUsed := s₂.slotsUsed } : State).setVm s₂.vm), Ls ++ L, c0 + mc, s0 + ms⟩,
      ⟨X.admits, X.cas, X.clock, X.frames, X.room, X.hears, X.method, X.code, (X.here.setHeapUsed s₂.heap s₂.slotsUsed).setVm hW'.alike, X.tail, State.WarmedH.trans X.warmed hW', X.limits, X.bytes, X.same.trans (hsame.setVm s.vm)⟩,
      ⟨g, mk, s₂, L, E, ce, rfl, rfl, hx, hce, hcv, hcl, rfl, hL, rfl, rfl⟩, ?_⟩
    show Steps p.tables e below _ (((({ U with heap := s₂.heap, slotsUsed := s₂.slotsUsed } : State).setVm s₂.vm).setTop g).pushFrame (.throwing q))
    rw [← hs₂]
    exact hsteps
end
variable {p : Program} {l : Launch} {e : Env} {R : Room} {s : State} {m : MethodId} {args : Array Value} {below : List Frame} {meth : Method} {c : Code} {T : State} {H : Heap} {locs : List Loc} {cells slots : Nat}
theorem vx_callVX (X : Stand p l e R s m args below meth c T locs cells slots) (hexec : p.tables.exec = Jvm.exec) {own C : String} {index : Nat} {y : MethodName} {bytes : ByteArray} {maxL : Nat} {ret : Option FieldType} {hh : List (Nat × Nat × Nat × Nat)}
    (hown : s.vm.findClass own = some m.cls) (hlink : (Cond.methodLink own index y).before args s = true) (hinst : (Cond.instanceMethod y).before args s = true) (hsel : (Cond.selects C y y).before args s = true)
    (hcode : (Cond.codeWith y bytes maxL ret hh).before args s = true) (hy : y.cls ≠ "java/lang/invoke/MethodHandle" ∧ y.cls ≠ "java/lang/invoke/VarHandle")
    {W9 : Nat} {Pre : Pt → Array Value → Prop} {Post : Pt → Array Value → Option Value → Pt → Prop} {PostX : Pt → Array Value → Addr → Pt → Prop} (hK : vx_Back l R p e below s args y 3 W9 Pre Post PostX)
    {b : Addr} {cellB : Cell} (hcell : T.heap[b]? = some cellB) (hobj : cellB.vm.isStatics = false) (hcls : s.vm.findClass C = some cellB.cls)
    {g : JFrame} (hg : g.method = m) (hsize : g.locals.size = c.maxLocals) {argsL rest : List Value} (hlen : ∀ sig, parseMethodDescriptor y.desc = some sig → argsL.length = sig.parameters.length)
    (hstack : g.stack = argsL.reverse ++ .ref b :: rest) (hW : 2 * g.monitorRoom + (rest.map fun v => v.category).sum ≤ W9) (hdg : decode c.code g.pc = .ok (.invokevirtual index, 3))
    (hpre : ∀ vm₁, s.WarmedH vm₁ → Pre ⟨T.setVm vm₁, locs, cells, slots⟩ (Value.ref b :: argsL).toArray) :
    (∃ (v : Option Value) (vm₁ : Vm) (B : Pt), s.WarmedH vm₁ ∧ Stand p l e R s m args below meth c B.U B.locs B.cells B.slots ∧ Post ⟨T.setVm vm₁, locs, cells, slots⟩ (Value.ref b :: argsL).toArray v B ∧
      ∀ target, Steps p.tables e below (B.U.setTop { g with pc := g.pc + 3, stack := v.toList ++ rest }) target → Steps p.tables e below (T.setTop g) target) ∨
    (∃ (q : Addr) (vm₁ : Vm) (B : Pt), s.WarmedH vm₁ ∧ Stand p l e R s m args below meth c B.U B.locs B.cells B.slots ∧ PostX ⟨T.setVm vm₁, locs, cells, slots⟩ (Value.ref b :: argsL).toArray q B ∧
      Steps p.tables e below (T.setTop g) ((B.U.setTop { g with stack := rest }).pushFrame (.throwing q))) := by
  obtain ⟨mk, methM, hnamed, hmethM, hstM, habM⟩ := Cond.instanceMethod_spec hinst
  obtain ⟨m8, methM', cM, hn8, hmethM', -, -, -, -, -, -, hsigM⟩ := Cond.codeWith_spec hcode
  cases Option.some.inj (hn8.symm.trans hnamed)
  cases hmethM.symm.trans hmethM'
  obtain ⟨c2, r2, m2, q1, q2, q3, q4, kP, hkP, hkPi⟩ := Cond.selects_spec hsel
  cases hcls.symm.trans q1
  cases (State.methodFound?_of_named hnamed hy).symm.trans q2
  cases hnamed.symm.trans q3
  have hselP : selectMethod e.platform s.vm cellB.cls mk = .method mk := by rw [Launch.admits_selectMethod X.admits]; exact q4
  obtain ⟨vm₁, X₁, hstep₁⟩ := X.invokevirtual hexec hown hlink hnamed hmethM hstM hkP hkPi hy (a := b) (cell := cellB) hcell
    (fun z h => by rw [h] at hobj; cases hobj) hselP hmethM habM hkP hkPi (g := g) hg (argsL := argsL) (rest := rest) (hlen _ hsigM) hstack hdg
  rcases hK m meth c ⟨T.setVm vm₁, locs, cells, slots⟩ { g with stack := rest } (.invokevirtual index) mk (Value.ref b :: argsL).toArray X₁ hg hsize hdg hW (X₁.named hnamed) (hpre vm₁ X₁.warmed) with ⟨v, B, X', hpost, hsteps⟩ | ⟨q, B, X', hpost, hsteps⟩
  · exact Or.inl ⟨v, vm₁, B, X₁.warmed, X', hpost, fun target h => hstep₁ _ fun acts => by rw [doInvoke_state]; exact hsteps.trans h⟩
  · exact Or.inr ⟨q, vm₁, B, X₁.warmed, X', hpost, hstep₁ _ fun acts => by rw [doInvoke_state]; exact hsteps⟩
theorem vx_callSX (X : Stand p l e R s m args below meth c T locs cells slots) (hexec : p.tables.exec = Jvm.exec) {own : String} {index : Nat} {y : MethodName} {bytes : ByteArray} {maxL : Nat} {ret : Option FieldType} {hh : List (Nat × Nat × Nat × Nat)}
    (hown : s.vm.findClass own = some m.cls) (hlink : (Cond.methodLink own index y).before args s = true) (hstat : (Cond.static y).before args s = true) (hinit : (Cond.initialized y.cls).before args s = true)
    (hcode : (Cond.codeWith y bytes maxL ret hh).before args s = true) (hy : y.cls ≠ "java/lang/invoke/MethodHandle" ∧ y.cls ≠ "java/lang/invoke/VarHandle")
    {W9 : Nat} {Pre : Pt → Array Value → Prop} {Post : Pt → Array Value → Option Value → Pt → Prop} {PostX : Pt → Array Value → Addr → Pt → Prop} (hK : vx_Back l R p e below s args y 3 W9 Pre Post PostX)
    {g : JFrame} (hg : g.method = m) (hsize : g.locals.size = c.maxLocals) {argsL rest : List Value} (hlen : ∀ sig, parseMethodDescriptor y.desc = some sig → argsL.length = sig.parameters.length)
    (hstack : g.stack = argsL.reverse ++ rest) (hW : 2 * g.monitorRoom + (rest.map fun v => v.category).sum ≤ W9) (hdg : decode c.code g.pc = .ok (.invokestatic index, 3))
    (hpre : ∀ vm₁, s.WarmedH vm₁ → Pre ⟨T.setVm vm₁, locs, cells, slots⟩ argsL.toArray) :
    (∃ (v : Option Value) (vm₁ : Vm) (B : Pt), s.WarmedH vm₁ ∧ Stand p l e R s m args below meth c B.U B.locs B.cells B.slots ∧ Post ⟨T.setVm vm₁, locs, cells, slots⟩ argsL.toArray v B ∧
      ∀ target, Steps p.tables e below (B.U.setTop { g with pc := g.pc + 3, stack := v.toList ++ rest }) target → Steps p.tables e below (T.setTop g) target) ∨
    (∃ (q : Addr) (vm₁ : Vm) (B : Pt), s.WarmedH vm₁ ∧ Stand p l e R s m args below meth c B.U B.locs B.cells B.slots ∧ PostX ⟨T.setVm vm₁, locs, cells, slots⟩ argsL.toArray q B ∧
      Steps p.tables e below (T.setTop g) ((B.U.setTop { g with stack := rest }).pushFrame (.throwing q))) := by
  obtain ⟨mk, methM, cM, hnamed, hmethM, -, -, -, -, -, -, hsigM⟩ := Cond.codeWith_spec hcode
  have hstatic : methM.isStatic = true := Cond.static_spec hnamed hmethM hstat
  obtain ⟨kP, hkP, -⟩ := className_of_methodNamed hnamed
  have hinitP : kP.init = .initialized := Cond.initialized_spec (findClass_of_methodNamed hnamed) hkP hinit
  obtain ⟨vm₁, X₁, hstep₁⟩ := X.invokestatic hexec hown hlink hnamed hmethM hstatic hkP hinitP hy (g := g) hg (argsL := argsL) (rest := rest) (hlen _ hsigM) hstack hdg
  rcases hK m meth c ⟨T.setVm vm₁, locs, cells, slots⟩ { g with stack := rest } (.invokestatic index) mk argsL.toArray X₁ hg hsize hdg hW (X₁.named hnamed) (hpre vm₁ X₁.warmed) with ⟨v, B, X', hpost, hsteps⟩ | ⟨q, B, X', hpost, hsteps⟩
  · exact Or.inl ⟨v, vm₁, B, X₁.warmed, X', hpost, fun target h => hstep₁ _ fun acts => by rw [doInvoke_state]; exact hsteps.trans h⟩
  · exact Or.inr ⟨q, vm₁, B, X₁.warmed, X', hpost, hstep₁ _ fun acts => by rw [doInvoke_state]; exact hsteps⟩
theorem vx_callVW (X : Stand p l e R s m args below meth c T locs cells slots) (hexec : p.tables.exec = Jvm.exec) {own C : String} {index : Nat} {y : MethodName} {bytes : ByteArray} {maxL : Nat} {ret : Option FieldType} {hh : List (Nat × Nat × Nat × Nat)}
    (hown : s.vm.findClass own = some m.cls) (hlink : (Cond.methodLink own index y).before args s = true) (hinst : (Cond.instanceMethod y).before args s = true) (hsel : (Cond.selects C y y).before args s = true)
    (hcode : (Cond.codeWith y bytes maxL ret hh).before args s = true) (hy : y.cls ≠ "java/lang/invoke/MethodHandle" ∧ y.cls ≠ "java/lang/invoke/VarHandle")
    {W9 : Nat} {Pre : Pt → Array Value → Prop} {Post : Pt → Array Value → Option Value → Pt → Prop} (hK : Back l R p e below s args y 3 W9 Pre Post)
    {b : Addr} {cellB : Cell} (hcell : T.heap[b]? = some cellB) (hobj : cellB.vm.isStatics = false) (hcls : s.vm.findClass C = some cellB.cls)
    {g : JFrame} (hg : g.method = m) (hsize : g.locals.size = c.maxLocals) {argsL rest : List Value} (hlen : ∀ sig, parseMethodDescriptor y.desc = some sig → argsL.length = sig.parameters.length)
    (hstack : g.stack = argsL.reverse ++ .ref b :: rest) (hW : 2 * g.monitorRoom + (rest.map fun v => v.category).sum ≤ W9) (hdg : decode c.code g.pc = .ok (.invokevirtual index, 3))
    (hpre : ∀ vm₁, s.WarmedH vm₁ → Pre ⟨T.setVm vm₁, locs, cells, slots⟩ (Value.ref b :: argsL).toArray) :
    ∃ (v : Option Value) (vm₁ : Vm) (B : Pt), s.WarmedH vm₁ ∧ Stand p l e R s m args below meth c B.U B.locs B.cells B.slots ∧ Post ⟨T.setVm vm₁, locs, cells, slots⟩ (Value.ref b :: argsL).toArray v B ∧
      ∀ target, Steps p.tables e below (B.U.setTop { g with pc := g.pc + 3, stack := v.toList ++ rest }) target → Steps p.tables e below (T.setTop g) target := by
  obtain ⟨mk, methM, hnamed, hmethM, hstM, habM⟩ := Cond.instanceMethod_spec hinst
  obtain ⟨m8, methM', cM, hn8, hmethM', -, -, -, -, -, -, hsigM⟩ := Cond.codeWith_spec hcode
  cases Option.some.inj (hn8.symm.trans hnamed)
  cases hmethM.symm.trans hmethM'
  obtain ⟨c2, r2, m2, q1, q2, q3, q4, kP, hkP, hkPi⟩ := Cond.selects_spec hsel
  cases hcls.symm.trans q1
  cases (State.methodFound?_of_named hnamed hy).symm.trans q2
  cases hnamed.symm.trans q3
  have hselP : selectMethod e.platform s.vm cellB.cls mk = .method mk := by rw [Launch.admits_selectMethod X.admits]; exact q4
  obtain ⟨vm₁, X₁, hstep₁⟩ := X.invokevirtual hexec hown hlink hnamed hmethM hstM hkP hkPi hy (a := b) (cell := cellB) hcell
    (fun z h => by rw [h] at hobj; cases hobj) hselP hmethM habM hkP hkPi (g := g) hg (argsL := argsL) (rest := rest) (hlen _ hsigM) hstack hdg
  obtain ⟨v, B, X', hpost, hsteps⟩ := hK m meth c ⟨T.setVm vm₁, locs, cells, slots⟩ { g with stack := rest } (.invokevirtual index) mk (Value.ref b :: argsL).toArray X₁ hg hsize hdg hW (X₁.named hnamed) (hpre vm₁ X₁.warmed)
  exact ⟨v, vm₁, B, X₁.warmed, X', hpost, fun target h => hstep₁ _ fun acts => by rw [doInvoke_state]; exact hsteps.trans h⟩
abbrev vx_CVW (R : Room) (s : State) (args : Array Value) (own C : String) (index : Nat) (y : MethodName) (bytes : ByteArray) (maxL : Nat) (ret : Option FieldType) (hh : List (Nat × Nat × Nat × Nat)) (ws : List Cond) (rm : Room) (mc ms n : Nat) : Prop :=
  (rm.cells = mc ∧ rm.slots = ms ∧ rm.frames + 1 ≤ R.frames ∧ 8 + (maxL + 11) + rm.locals ≤ R.locals ∧ (∀ w ∈ ws, ∀ (a' : Array Value) (U : State), s.WarmedH U.vm → w.before a' U = true) ∧ Cond.codeWith y bytes maxL ret hh ∈ ws) ∧
  (Cond.codeWith y bytes maxL ret hh).before args s = true ∧ (Cond.initialized y.cls).before args s = true ∧ (y.cls ≠ "java/lang/invoke/MethodHandle" ∧ y.cls ≠ "java/lang/invoke/VarHandle") ∧
  (∀ sig, parseMethodDescriptor y.desc = some sig → n = sig.parameters.length) ∧ (Cond.methodLink own index y).before args s = true ∧ (Cond.instanceMethod y).before args s = true ∧ (Cond.selects C y y).before args s = true
theorem vx_cwVW {own C : String} {index maxL mc ms : Nat} {y : MethodName} {bytes : ByteArray} {ret : Option FieldType} {hh : List (Nat × Nat × Nat × Nat)} {Ts ws ws' : List Cond} {rm : Room} (n : Nat) (ht : ∀ w ∈ Ts, w.before args s = true) (hT : GoodIn Ts (wsV own index C y ws)) (hw : ws = Cond.codeWith y bytes maxL ret hh :: ws') (hrc : rm.cells = mc) (hrs : rm.slots = ms)
    (hd : y.cls = C ∧ y.cls ≠ "java/lang/invoke/MethodHandle" ∧ y.cls ≠ "java/lang/invoke/VarHandle" ∧ (parseMethodDescriptor y.desc).map (fun d => d.parameters.length) = some n) (hR : rm.frames + 1 ≤ R.frames ∧ 8 + (maxL + 11) + rm.locals ≤ R.locals) :
    vx_CVW R s args own C index y bytes maxL ret hh ws rm mc ms n := by
  obtain ⟨hC, hd⟩ := hd
  subst hC
  have ok : ∀ w ∈ wsV own index y.cls y ws, w.before args s = true := fun w h => ht w (hT w h).1
  have hG : GoodIn Ts ws := fun w h => hT w (by unfold wsV; exact List.mem_append_right _ h)
  have hc : Cond.codeWith y bytes maxL ret hh ∈ ws := by rw [hw]; exact List.mem_cons_self
  refine ⟨⟨hrc, hrs, hR.1, hR.2, pay_in ht hG, hc⟩, ht _ (hG _ hc).1, ok _ (by simp [wsV]), ⟨hd.1, hd.2.1⟩, fun sig h => ?_, ok _ (by simp [wsV]), ok _ (by simp [wsV]), ok _ (by simp [wsV])⟩
  have h2 := hd.2.2
  rw [h] at h2
  exact (Option.some.inj h2).symm
theorem vx_runVW {y : MethodName} {bytes cc : ByteArray} {maxL nL mc ms n index : Nat} {ret : Option FieldType} {hh : List (Nat × Nat × Nat × Nat)} {ws : List Cond} {rm : Room} {Pc : Array Value → State → Prop} {Qc : Array Value → State → Outcome → State → Prop} {free : Addr → Prop} {Ts : List Cond} {own C : String} {b : Addr} {As rest : List Value} {g : JFrame}
    (S : CallFix p m c cc nL s args Ts own) (hM : Met l y ws rm Pc Qc mc ms free) (cw : vx_CVW R s args own C index y bytes maxL ret hh ws rm mc ms n) (hp : PreV s H C b Pc As)
    (hg : g.method = m) (hn : As.length = n) (hsize : g.locals.size = nL) (hstack : g.stack = As.reverse ++ .ref b :: rest) (hW : 2 * g.monitorRoom + (rest.map fun v => v.category).sum ≤ 8) (hdg : decode cc g.pc = .ok (.invokevirtual index, 3)) (hf : cells + mc ≤ R.cells ∧ slots + ms ≤ R.slots) :
    va_Run p l e R s m args below meth c H locs cells slots mc ms g rest (Qc (Value.ref b :: As).toArray) free := by
  obtain ⟨⟨hrc, hrs, hfr, hlo, hws, hcw⟩, hcode, hini, hy, hlen, hl, hin, hse⟩ := cw
  have hK : Back l R p e below s args y 3 8 (PreOf R mc ms Pc) (PostOf Qc mc ms free) := va_backW (hh := hh) (bytes := bytes) (maxL := maxL) (ret := ret) hM hp.1 hrc hrs hfr hlo hws hcw (fun a' U hW => word_at hW (Or.inl (by first | rfl | simp [Cond.onTables, Cond.keeps, Cond.steady])) hini)
  obtain ⟨hx, hb, hml, ho, -⟩ := S
  obtain ⟨-, ⟨cellB, hcB, hoB, hclB⟩, hPc⟩ := hp
  intro T hT X
  obtain ⟨v, vm₁, ⟨U', l2, c2, s2⟩, hW₁, X', ⟨g', mk, t, L, e1, e2, hq, h1, hL, h2, h3⟩, st⟩ := vx_callVW X hx (C := C) (hh := hh) (bytes := bytes) (maxL := maxL) (ret := ret) ho hl hin hse hcode hy hK (by rw [hT]; exact hcB) hoB hclB hg (hsize.trans hml.symm) (argsL := As) (rest := rest) (fun sig h => hn.trans (hlen sig h)) hstack hW (by rw [hb]; exact hdg)
    (fun vm₁ hW₁ => ⟨hf.1, hf.2, hPc (T.setVm vm₁) hT hW₁⟩)
  dsimp only [Pt.U, Pt.locs, Pt.cells, Pt.slots] at X' e1 e2 h1 h2 h3 st
  subst h1; subst h2; subst h3
  exact ⟨v, (T.setVm vm₁).calling g' mk (Value.ref b :: As).toArray, t, U', L, hT, X', hL, e1, e2, hq, st⟩
section
variable {y : MethodName} {bytes cc : ByteArray} {maxL nL mc ms n index : Nat} {ret : Option FieldType} {ws : List Cond} {rm : Room} {Pc : Array Value → State → Prop} {Qc : Array Value → State → Outcome → State → Prop} {XC : String → State → State → Prop} {free : Addr → Prop} {Ts : List Cond} {own C : String} {b : Addr} {As rest : List Value} {g : JFrame}
theorem vx_runVX {hh : List (Nat × Nat × Nat × Nat)} (S : CallFix p m c cc nL s args Ts own) (hM : vx_Met l y ws rm Pc Qc XC mc ms free) (cw : vx_CVW R s args own C index y bytes maxL ret hh ws rm mc ms n) (hp : PreV s H C b Pc As)
    (hg : g.method = m) (hn : As.length = n) (hsize : g.locals.size = nL) (hstack : g.stack = As.reverse ++ .ref b :: rest) (hW : 2 * g.monitorRoom + (rest.map fun v => v.category).sum ≤ 8) (hdg : decode cc g.pc = .ok (.invokevirtual index, 3)) (hf : cells + mc ≤ R.cells ∧ slots + ms ≤ R.slots) :
    vx_Run p l e R s m args below meth c H locs cells slots mc ms g rest (Qc (Value.ref b :: As).toArray) XC free := by
  obtain ⟨⟨hrc, hrs, hfr, hlo, hws, hcw⟩, hcode, hini, hy, hlen, hl, hin, hse⟩ := cw
  have hK : vx_Back l R p e below s args y 3 8 (PreOf R mc ms Pc) (PostOf Qc mc ms free) (vx_Post XC mc ms free) := vx_backW (hh := hh) (bytes := bytes) (maxL := maxL) (ret := ret) hM hp.1 hrc hrs hfr hlo hws hcw (fun a' U hW => word_at hW (Or.inl (by first | rfl | simp [Cond.onTables, Cond.keeps, Cond.steady])) hini)
  obtain ⟨hx, hb, hml, ho, -⟩ := S
  obtain ⟨-, ⟨cellB, hcB, hoB, hclB⟩, hPc⟩ := hp
  intro T hT X
  rcases vx_callVX X hx (C := C) (hh := hh) (bytes := bytes) (maxL := maxL) (ret := ret) ho hl hin hse hcode hy hK (by rw [hT]; exact hcB) hoB hclB hg (hsize.trans hml.symm) (argsL := As) (rest := rest) (fun sig h => hn.trans (hlen sig h)) hstack hW (by rw [hb]; exact hdg)
    (fun vm₁ hW₁ => ⟨hf.1, hf.2, hPc (T.setVm vm₁) hT hW₁⟩) with ⟨v, vm₁, ⟨U', l2, c2, s2⟩, hW₁, X', ⟨g', mk, t, L, e1, e2, hq, h1, hL, h2, h3⟩, st⟩ | ⟨q, vm₁, ⟨U', l2, c2, s2⟩, hW₁, X', ⟨g', mk, t, L, E, ce, e1, e2, hq, hce, hcv, hcl, h1, hL, h2, h3⟩, st⟩
  · dsimp only [Pt.U, Pt.locs, Pt.cells, Pt.slots] at X' e1 e2 h1 h2 h3 st
    subst h1; subst h2; subst h3
    exact Or.inl ⟨v, (T.setVm vm₁).calling g' mk (Value.ref b :: As).toArray, t, U', L, hT, X', hL, e1, e2, hq, st⟩
  · dsimp only [Pt.U, Pt.locs, Pt.cells, Pt.slots] at X' e1 e2 h1 h2 h3 st hcl
    subst h1; subst h2; subst h3
    exact Or.inr ⟨q, (T.setVm vm₁).calling g' mk (Value.ref b :: As).toArray, t, U', L, E, ce, hT, X', hL, e1, e2, hq, hce, hcv, vx_cls hW₁ hcl, st⟩
theorem vx_runSX {hh : List (Nat × Nat × Nat × Nat)} (S : CallFix p m c cc nL s args Ts own) (hM : vx_Met l y ws rm Pc Qc XC mc ms free) (cw : vx_CSW R s args own index y bytes maxL ret hh ws rm mc ms n) (hp : PreS s H Pc As)
    (hg : g.method = m) (hn : As.length = n) (hsize : g.locals.size = nL) (hstack : g.stack = As.reverse ++ rest) (hW : 2 * g.monitorRoom + (rest.map fun v => v.category).sum ≤ 8) (hdg : decode cc g.pc = .ok (.invokestatic index, 3)) (hf : cells + mc ≤ R.cells ∧ slots + ms ≤ R.slots) :
    vx_Run p l e R s m args below meth c H locs cells slots mc ms g rest (Qc As.toArray) XC free := by
  obtain ⟨⟨hrc, hrs, hfr, hlo, hws, hcw⟩, hcode, hini, hy, hlen, hl, hstt⟩ := cw
  have hK : vx_Back l R p e below s args y 3 8 (PreOf R mc ms Pc) (PostOf Qc mc ms free) (vx_Post XC mc ms free) := vx_backW (hh := hh) (bytes := bytes) (maxL := maxL) (ret := ret) hM hp.1 hrc hrs hfr hlo hws hcw (fun a' U hW => word_at hW (Or.inl (by first | rfl | simp [Cond.onTables, Cond.keeps, Cond.steady])) hini)
  obtain ⟨hx, hb, hml, ho, -⟩ := S
  intro T hT X
  rcases vx_callSX X hx (hh := hh) (bytes := bytes) (maxL := maxL) (ret := ret) ho hl hstt hini hcode hy hK hg (hsize.trans hml.symm) (argsL := As) (rest := rest) (fun sig h => hn.trans (hlen sig h)) hstack hW (by rw [hb]; exact hdg)
    (fun vm₁ hW₁ => ⟨hf.1, hf.2, hp.2 (T.setVm vm₁) hT hW₁⟩) with ⟨v, vm₁, ⟨U', l2, c2, s2⟩, hW₁, X', ⟨g', mk, t, L, e1, e2, hq, h1, hL, h2, h3⟩, st⟩ | ⟨q, vm₁, ⟨U', l2, c2, s2⟩, hW₁, X', ⟨g', mk, t, L, E, ce, e1, e2, hq, hce, hcv, hcl, h1, hL, h2, h3⟩, st⟩
  · dsimp only [Pt.U, Pt.locs, Pt.cells, Pt.slots] at X' e1 e2 h1 h2 h3 st
    subst h1; subst h2; subst h3
    exact Or.inl ⟨v, (T.setVm vm₁).calling g' mk As.toArray, t, U', L, hT, X', hL, e1, e2, hq, st⟩
  · dsimp only [Pt.U, Pt.locs, Pt.cells, Pt.slots] at X' e1 e2 h1 h2 h3 st hcl
    subst h1; subst h2; subst h3
    exact Or.inr ⟨q, (T.setVm vm₁).calling g' mk As.toArray, t, U', L, E, ce, hT, X', hL, e1, e2, hq, hce, hcv, vx_cls hW₁ hcl, st⟩
end
end VXH
theorem vx_ofWH {l : Launch} {y : MethodName} {ws ws' : List Cond} {rm : Room} {Pc : Array Value → State → Prop} {Qc : Array Value → State → Outcome → State → Prop} {XC : String → State → State → Prop} {mc ms : Nat} {free : Addr → Prop} {cc : ByteArray} {maxL : Nat} {ret : Option FieldType} {hh : List (Nat × Nat × Nat × Nat)}
    (hy : plainName y.cls = true) (hw : ws = Cond.codeWith y cc maxL ret hh :: ws')
    (body : ∀ p e s m args below meth c s₁, BodyLoose p l y (headSpec ws rm) cc maxL ret e s m args below meth c s₁ → c.maxLocals = maxL → Pc args s →
      W p l e (headSpec ws rm).room s m args below meth c s.heap [] 0 0 (vx_MQ below Qc XC args s mc ms free) (entryFrame m args maxL)) : vx_Met l y ws rm Pc Qc XC mc ms free := by
  refine MetFree.of_bodyS (code := cc) (maxLocals := maxL) (ret := ret) hy ?_ ?_
  · intro args s m h hn
    obtain ⟨m9, meth, c, hn9, h1, h2, h3, h4, -, h5, h6, -⟩ := Cond.codeWith_spec (atoms_spec (ws := ws) h _ (by rw [hw]; exact List.mem_cons_self))
    cases hn.symm.trans hn9
    exact ⟨meth, c, h1, h2, h3, h4, h5, h6⟩
  · intro p e s m args below meth c s₁ B hml hP _
    have hh0 : s₁.heap = s.heap := by rw [B.state]; rfl
    obtain ⟨t, a1, o, b1, b2, b3⟩ := body p e s m args below meth c s₁ B hml hP s₁ hh0 (Stand.of_body B)
    exact ⟨t, o, a1, b1, b2, b3⟩
/-! ===== END ===== -/
end
section
def RX0 : String := "MixerStation$History"
def TX0 : u_T := fun k => match k with
  | 0 => ("MixerStation$History", "states", "[LMixerStation$State;", true)
  | _ => ("MixerStation$History", "count", "I", false)
def tyX0 : Nat → FieldType := fun k => match k with
  | 0 => .array (.object "MixerStation$State")
  | _ => .int
abbrev wsX00 : List Cond := u_ws RX0 TX0 2
theorem nmX0 : ∀ a, a < 2 → ∀ b, b < 2 → a ≠ b → (TX0 a).2.1 ≠ (TX0 b).2.1 := by decide +kernel
theorem tyX0_ok : ∀ k, k < 2 → parseFieldDescriptor (TX0 k).2.2.1 = some (tyX0 k) := by decide +kernel
abbrev cX0_init : ByteArray := prog_2_method_1_code
def yX0_init : MethodName := ⟨RX0, "<init>", "()V"⟩
abbrev cX0_isEmpty : ByteArray := prog_2_method_2_code
def yX0_isEmpty : MethodName := ⟨RX0, "isEmpty", "()Z"⟩
abbrev cX0_forgetAll : ByteArray := prog_2_method_3_code
def yX0_forgetAll : MethodName := ⟨RX0, "forgetAll", "()V"⟩
abbrev cX0_remember : ByteArray := prog_2_method_4_code
def yX0_remember : MethodName := ⟨RX0, "remember", "(LMixerStation$State;)V"⟩
abbrev cX0_forgetOldest : ByteArray := prog_2_method_5_code
def yX0_forgetOldest : MethodName := ⟨RX0, "forgetOldest", "()V"⟩
abbrev cX0_takeBackInto : ByteArray := prog_2_method_6_code
def yX0_takeBackInto : MethodName := ⟨RX0, "takeBackInto", "(LMixerStation$State;)V"⟩
def RX1 : String := "MixerStation$Ledger"
def TX1 : u_T := fun k => match k with
  | 0 => ("MixerStation$Ledger", "from", "[I", true)
  | 1 => ("MixerStation$Ledger", "to", "[I", true)
  | 2 => ("MixerStation$Ledger", "sum", "[I", true)
  | _ => ("MixerStation$Ledger", "count", "I", false)
def tyX1 : Nat → FieldType := fun k => match k with
  | 0 => .array .int
  | 1 => .array .int
  | 2 => .array .int
  | _ => .int
abbrev wsX10 : List Cond := u_ws RX1 TX1 4
theorem nmX1 : ∀ a, a < 4 → ∀ b, b < 4 → a ≠ b → (TX1 a).2.1 ≠ (TX1 b).2.1 := by decide +kernel
theorem tyX1_ok : ∀ k, k < 4 → parseFieldDescriptor (TX1 k).2.2.1 = some (tyX1 k) := by decide +kernel
abbrev cX1_init : ByteArray := prog_3_method_1_code
def yX1_init : MethodName := ⟨RX1, "<init>", "()V"⟩
abbrev cX1_copyFrom : ByteArray := prog_3_method_2_code
def yX1_copyFrom : MethodName := ⟨RX1, "copyFrom", "(LMixerStation$Ledger;)V"⟩
abbrev cX1_hasWay : ByteArray := prog_3_method_3_code
def yX1_hasWay : MethodName := ⟨RX1, "hasWay", "(I)Z"⟩
abbrev cX1_note : ByteArray := prog_3_method_4_code
def yX1_note : MethodName := ⟨RX1, "note", "(III)V"⟩
abbrev cX1_sumBetween : ByteArray := prog_3_method_5_code
def yX1_sumBetween : MethodName := ⟨RX1, "sumBetween", "(II)I"⟩
def RX2 : String := "MixerStation$Room"
def TX2 : u_T := fun k => match k with
  | 0 => ("MixerStation$Room", "wanted", "I", false)
  | 1 => ("MixerStation$Room", "radiators", "I", false)
  | 2 => ("MixerStation$Room", "leak", "I", false)
  | 3 => ("MixerStation$Room", "open", "Z", false)
  | 4 => ("MixerStation$Room", "comfort", "I", false)
  | 5 => ("MixerStation$Room", "cold", "I", false)
  | _ => ("MixerStation$Room", "warm", "I", false)
def tyX2 : Nat → FieldType := fun k => match k with
  | 0 => .int
  | 1 => .int
  | 2 => .int
  | 3 => .boolean
  | 4 => .int
  | 5 => .int
  | _ => .int
abbrev wsX20 : List Cond := u_ws RX2 TX2 7
theorem nmX2 : ∀ a, a < 7 → ∀ b, b < 7 → a ≠ b → (TX2 a).2.1 ≠ (TX2 b).2.1 := by decide +kernel
theorem tyX2_ok : ∀ k, k < 7 → parseFieldDescriptor (TX2 k).2.2.1 = some (tyX2 k) := by decide +kernel
abbrev cX2_init : ByteArray := prog_4_method_1_code
def yX2_init : MethodName := ⟨RX2, "<init>", "()V"⟩
abbrev cX2_copyFrom : ByteArray := prog_4_method_2_code
def yX2_copyFrom : MethodName := ⟨RX2, "copyFrom", "(LMixerStation$Room;)V"⟩
abbrev cX2_begin : ByteArray := prog_4_method_3_code
def yX2_begin : MethodName := ⟨RX2, "begin", "(III)V"⟩
abbrev cX2_change : ByteArray := prog_4_method_4_code
def yX2_change : MethodName := ⟨RX2, "change", "(II)I"⟩
abbrev cX2_judge : ByteArray := prog_4_method_5_code
def yX2_judge : MethodName := ⟨RX2, "judge", "(I)V"⟩
def RX3 : String := "MixerStation$State"
def TX3 : u_T := fun k => match k with
  | 0 => ("MixerStation$State", "minutes", "I", false)
  | 1 => ("MixerStation$State", "outdoors", "I", false)
  | 2 => ("MixerStation$State", "burning", "Z", false)
  | 3 => ("MixerStation$State", "sinceSwitch", "I", false)
  | 4 => ("MixerStation$State", "starts", "I", false)
  | 5 => ("MixerStation$State", "share", "I", false)
  | 6 => ("MixerStation$State", "summer", "Z", false)
  | 7 => ("MixerStation$State", "seasonCounter", "I", false)
  | 8 => ("MixerStation$State", "roomCount", "I", false)
  | 9 => ("MixerStation$State", "settings", "[I", true)
  | 10 => ("MixerStation$State", "heat", "[I", true)
  | 11 => ("MixerStation$State", "capacity", "[I", true)
  | 12 => ("MixerStation$State", "rooms", "[LMixerStation$Room;", true)
  | _ => ("MixerStation$State", "ledger", "LMixerStation$Ledger;", true)
def tyX3 : Nat → FieldType := fun k => match k with
  | 0 => .int
  | 1 => .int
  | 2 => .boolean
  | 3 => .int
  | 4 => .int
  | 5 => .int
  | 6 => .boolean
  | 7 => .int
  | 8 => .int
  | 9 => .array .int
  | 10 => .array .int
  | 11 => .array .int
  | 12 => .array (.object "MixerStation$Room")
  | _ => .object "MixerStation$Ledger"
abbrev wsX30 : List Cond := u_ws RX3 TX3 14
theorem nmX3 : ∀ a, a < 14 → ∀ b, b < 14 → a ≠ b → (TX3 a).2.1 ≠ (TX3 b).2.1 := by decide +kernel
theorem tyX3_ok : ∀ k, k < 14 → parseFieldDescriptor (TX3 k).2.2.1 = some (tyX3 k) := by decide +kernel
abbrev cX3_init : ByteArray := prog_5_method_1_code
def yX3_init : MethodName := ⟨RX3, "<init>", "()V"⟩
abbrev cX3_beginAnew : ByteArray := prog_5_method_2_code
def yX3_beginAnew : MethodName := ⟨RX3, "beginAnew", "()V"⟩
abbrev cX3_copyFrom : ByteArray := prog_5_method_3_code
def yX3_copyFrom : MethodName := ⟨RX3, "copyFrom", "(LMixerStation$State;)V"⟩
abbrev cX3_hasRoom : ByteArray := prog_5_method_4_code
def yX3_hasRoom : MethodName := ⟨RX3, "hasRoom", "(I)Z"⟩
abbrev cX3_hasPlace : ByteArray := prog_5_method_5_code
def yX3_hasPlace : MethodName := ⟨RX3, "hasPlace", "(I)Z"⟩
abbrev cX3_isFull : ByteArray := prog_5_method_6_code
def yX3_isFull : MethodName := ⟨RX3, "isFull", "()Z"⟩
abbrev cX3_settingOf : ByteArray := prog_5_method_7_code
def yX3_settingOf : MethodName := ⟨RX3, "settingOf", "(I)I"⟩
abbrev cX3_changeSetting : ByteArray := prog_5_method_8_code
def yX3_changeSetting : MethodName := ⟨RX3, "changeSetting", "(II)V"⟩
abbrev cX3_turnWindow : ByteArray := prog_5_method_9_code
def yX3_turnWindow : MethodName := ⟨RX3, "turnWindow", "(IZ)V"⟩
abbrev cX3_buildRoom : ByteArray := prog_5_method_10_code
def yX3_buildRoom : MethodName := ⟨RX3, "buildRoom", "(IIII)V"⟩
abbrev cX3_heatOf : ByteArray := prog_5_method_11_code
def yX3_heatOf : MethodName := ⟨RX3, "heatOf", "(I)I"⟩
abbrev cX3_capacityOf : ByteArray := prog_5_method_12_code
def yX3_capacityOf : MethodName := ⟨RX3, "capacityOf", "(I)I"⟩
abbrev cX3_degrees : ByteArray := prog_5_method_13_code
def yX3_degrees : MethodName := ⟨RX3, "degrees", "(I)I"⟩
abbrev cX3_allHeat : ByteArray := prog_5_method_14_code
def yX3_allHeat : MethodName := ⟨RX3, "allHeat", "()I"⟩
abbrev cX3_allComfort : ByteArray := prog_5_method_15_code
def yX3_allComfort : MethodName := ⟨RX3, "allComfort", "()I"⟩
abbrev cX3_openWindows : ByteArray := prog_5_method_16_code
def yX3_openWindows : MethodName := ⟨RX3, "openWindows", "()I"⟩
abbrev cX3_heatMade : ByteArray := prog_5_method_17_code
def yX3_heatMade : MethodName := ⟨RX3, "heatMade", "()I"⟩
abbrev cX3_isAsWarmAsWanted : ByteArray := prog_5_method_18_code
def yX3_isAsWarmAsWanted : MethodName := ⟨RX3, "isAsWarmAsWanted", "(I)Z"⟩
abbrev cX3_warmRooms : ByteArray := prog_5_method_19_code
def yX3_warmRooms : MethodName := ⟨RX3, "warmRooms", "()I"⟩
abbrev cX3_loopShouldHave : ByteArray := prog_5_method_20_code
def yX3_loopShouldHave : MethodName := ⟨RX3, "loopShouldHave", "()I"⟩
abbrev cX3_advance : ByteArray := prog_5_method_21_code
def yX3_advance : MethodName := ⟨RX3, "advance", "(I)V"⟩
abbrev cX3_turnSeason : ByteArray := prog_5_method_22_code
def yX3_turnSeason : MethodName := ⟨RX3, "turnSeason", "()V"⟩
abbrev cX3_runBoiler : ByteArray := prog_5_method_23_code
def yX3_runBoiler : MethodName := ⟨RX3, "runBoiler", "()V"⟩
abbrev cX3_mustStop : ByteArray := prog_5_method_24_code
def yX3_mustStop : MethodName := ⟨RX3, "mustStop", "()Z"⟩
abbrev cX3_mayStart : ByteArray := prog_5_method_25_code
def yX3_mayStart : MethodName := ⟨RX3, "mayStart", "()Z"⟩
abbrev cX3_moveValve : ByteArray := prog_5_method_26_code
def yX3_moveValve : MethodName := ⟨RX3, "moveValve", "()V"⟩
abbrev cX3_isPinched : ByteArray := prog_5_method_27_code
def yX3_isPinched : MethodName := ⟨RX3, "isPinched", "()Z"⟩
abbrev cX3_freeTarget : ByteArray := prog_5_method_28_code
def yX3_freeTarget : MethodName := ⟨RX3, "freeTarget", "()I"⟩
abbrev cX3_mix : ByteArray := prog_5_method_29_code
def yX3_mix : MethodName := ⟨RX3, "mix", "()V"⟩
abbrev cX3_heatRooms : ByteArray := prog_5_method_30_code
def yX3_heatRooms : MethodName := ⟨RX3, "heatRooms", "()V"⟩
abbrev cX3_leakRooms : ByteArray := prog_5_method_31_code
def yX3_leakRooms : MethodName := ⟨RX3, "leakRooms", "()V"⟩
abbrev cX3_judgeRooms : ByteArray := prog_5_method_32_code
def yX3_judgeRooms : MethodName := ⟨RX3, "judgeRooms", "()V"⟩
abbrev cX3_move : ByteArray := prog_5_method_33_code
def yX3_move : MethodName := ⟨RX3, "move", "(III)V"⟩
abbrev cX3_addHeat : ByteArray := prog_5_method_34_code
def yX3_addHeat : MethodName := ⟨RX3, "addHeat", "(II)V"⟩
def RX4 : String := "MixerStation$StationReader"
def TX4 : u_T := fun k => match k with
  | 0 => ("MixerStation$StationReader", "text", "[C", true)
  | 1 => ("MixerStation$StationReader", "length", "I", true)
  | _ => ("MixerStation$StationReader", "position", "I", false)
def tyX4 : Nat → FieldType := fun k => match k with
  | 0 => .array .char
  | 1 => .int
  | _ => .int
abbrev wsX40 : List Cond := u_ws RX4 TX4 3
theorem nmX4 : ∀ a, a < 3 → ∀ b, b < 3 → a ≠ b → (TX4 a).2.1 ≠ (TX4 b).2.1 := by decide +kernel
theorem tyX4_ok : ∀ k, k < 3 → parseFieldDescriptor (TX4 k).2.2.1 = some (tyX4 k) := by decide +kernel
abbrev cX4_init : ByteArray := prog_6_method_1_code
def yX4_init : MethodName := ⟨RX4, "<init>", "([CI)V"⟩
abbrev cX4_readInto : ByteArray := prog_6_method_2_code
def yX4_readInto : MethodName := ⟨RX4, "readInto", "(LMixerStation$State;)Z"⟩
abbrev cX4_readHead : ByteArray := prog_6_method_3_code
def yX4_readHead : MethodName := ⟨RX4, "readHead", "(LMixerStation$State;)Z"⟩
abbrev cX4_readPart : ByteArray := prog_6_method_4_code
def yX4_readPart : MethodName := ⟨RX4, "readPart", "(LMixerStation$State;)Z"⟩
abbrev cX4_readSetting : ByteArray := prog_6_method_5_code
def yX4_readSetting : MethodName := ⟨RX4, "readSetting", "(LMixerStation$State;II)Z"⟩
abbrev cX4_readRoom : ByteArray := prog_6_method_6_code
def yX4_readRoom : MethodName := ⟨RX4, "readRoom", "(LMixerStation$State;)Z"⟩
abbrev cX4_readOutside : ByteArray := prog_6_method_7_code
def yX4_readOutside : MethodName := ⟨RX4, "readOutside", "(LMixerStation$State;)Z"⟩
abbrev cX4_readNumber : ByteArray := prog_6_method_8_code
def yX4_readNumber : MethodName := ⟨RX4, "readNumber", "(III)I"⟩
abbrev cX4_here : ByteArray := prog_6_method_9_code
def yX4_here : MethodName := ⟨RX4, "here", "()I"⟩
def RX5 : String := "MixerStation"
def TX5 : u_T := fun k => match k with
  | 0 => ("MixerStation", "text", "[C", true)
  | 1 => ("MixerStation", "textLength", "I", false)
  | 2 => ("MixerStation", "state", "LMixerStation$State;", true)
  | 3 => ("MixerStation", "copy", "LMixerStation$State;", true)
  | 4 => ("MixerStation", "history", "LMixerStation$History;", true)
  | 5 => ("MixerStation", "slots", "[LMixerStation$State;", true)
  | _ => ("MixerStation", "saved", "[Z", true)
def tyX5 : Nat → FieldType := fun k => match k with
  | 0 => .array .char
  | 1 => .int
  | 2 => .object "MixerStation$State"
  | 3 => .object "MixerStation$State"
  | 4 => .object "MixerStation$History"
  | 5 => .array (.object "MixerStation$State")
  | _ => .array .boolean
abbrev wsX50 : List Cond := u_ws RX5 TX5 7
theorem nmX5 : ∀ a, a < 7 → ∀ b, b < 7 → a ≠ b → (TX5 a).2.1 ≠ (TX5 b).2.1 := by decide +kernel
theorem tyX5_ok : ∀ k, k < 7 → parseFieldDescriptor (TX5 k).2.2.1 = some (tyX5 k) := by decide +kernel
abbrev cX5_init : ByteArray := prog_1_method_1_code
def yX5_init : MethodName := ⟨RX5, "<init>", "()V"⟩
abbrev cX5_append : ByteArray := prog_1_method_2_code
def yX5_append : MethodName := ⟨RX5, "append", "(I)I"⟩
abbrev cX5_clearText : ByteArray := prog_1_method_3_code
def yX5_clearText : MethodName := ⟨RX5, "clearText", "()I"⟩
abbrev cX5_errorPosition : ByteArray := prog_1_method_4_code
def yX5_errorPosition : MethodName := ⟨RX5, "errorPosition", "()I"⟩
abbrev cX5_load : ByteArray := prog_1_method_5_code
def yX5_load : MethodName := ⟨RX5, "load", "()I"⟩
abbrev cX5_about : ByteArray := prog_1_method_6_code
def yX5_about : MethodName := ⟨RX5, "about", "(I)I"⟩
abbrev cX5_setting : ByteArray := prog_1_method_7_code
def yX5_setting : MethodName := ⟨RX5, "setting", "(I)I"⟩
abbrev cX5_place : ByteArray := prog_1_method_8_code
def yX5_place : MethodName := ⟨RX5, "place", "(II)I"⟩
abbrev cX5_room : ByteArray := prog_1_method_9_code
def yX5_room : MethodName := ⟨RX5, "room", "(II)I"⟩
abbrev cX5_moved : ByteArray := prog_1_method_10_code
def yX5_moved : MethodName := ⟨RX5, "moved", "(II)I"⟩
abbrev cX5_way : ByteArray := prog_1_method_11_code
def yX5_way : MethodName := ⟨RX5, "way", "(II)I"⟩
abbrev cX5_addRoom : ByteArray := prog_1_method_12_code
def yX5_addRoom : MethodName := ⟨RX5, "addRoom", "(IIII)I"⟩
abbrev cX5_setRoom : ByteArray := prog_1_method_13_code
def yX5_setRoom : MethodName := ⟨RX5, "setRoom", "(III)I"⟩
abbrev cX5_window : ByteArray := prog_1_method_14_code
def yX5_window : MethodName := ⟨RX5, "window", "(IZ)I"⟩
abbrev cX5_set : ByteArray := prog_1_method_15_code
def yX5_set : MethodName := ⟨RX5, "set", "(II)I"⟩
abbrev cX5_outside : ByteArray := prog_1_method_16_code
def yX5_outside : MethodName := ⟨RX5, "outside", "(I)I"⟩
abbrev cX5_pass : ByteArray := prog_1_method_17_code
def yX5_pass : MethodName := ⟨RX5, "pass", "(I)I"⟩
abbrev cX5_undo : ByteArray := prog_1_method_18_code
def yX5_undo : MethodName := ⟨RX5, "undo", "()I"⟩
abbrev cX5_ahead : ByteArray := prog_1_method_19_code
def yX5_ahead : MethodName := ⟨RX5, "ahead", "(II)I"⟩
abbrev cX5_minutesTo : ByteArray := prog_1_method_20_code
def yX5_minutesTo : MethodName := ⟨RX5, "minutesTo", "(I)I"⟩
abbrev cX5_whyOff : ByteArray := prog_1_method_21_code
def yX5_whyOff : MethodName := ⟨RX5, "whyOff", "()I"⟩
abbrev cX5_whyShare : ByteArray := prog_1_method_22_code
def yX5_whyShare : MethodName := ⟨RX5, "whyShare", "()I"⟩
abbrev cX5_bestSlope : ByteArray := prog_1_method_23_code
def yX5_bestSlope : MethodName := ⟨RX5, "bestSlope", "(I)I"⟩
abbrev cX5_leastPower : ByteArray := prog_1_method_24_code
def yX5_leastPower : MethodName := ⟨RX5, "leastPower", "(I)I"⟩
abbrev cX5_heatFor : ByteArray := prog_1_method_25_code
def yX5_heatFor : MethodName := ⟨RX5, "heatFor", "(I)I"⟩
abbrev cX5_runScript : ByteArray := prog_1_method_26_code
def yX5_runScript : MethodName := ⟨RX5, "runScript", "(IJ)I"⟩
abbrev cX5_simulate : ByteArray := prog_1_method_27_code
def yX5_simulate : MethodName := ⟨RX5, "simulate", "(JI)J"⟩
abbrev cX5_save : ByteArray := prog_1_method_28_code
def yX5_save : MethodName := ⟨RX5, "save", "(I)I"⟩
abbrev cX5_restore : ByteArray := prog_1_method_29_code
def yX5_restore : MethodName := ⟨RX5, "restore", "(I)I"⟩
abbrev cX5_lowestSetting : ByteArray := prog_1_method_30_code
def yX5_lowestSetting : MethodName := ⟨RX5, "lowestSetting", "(I)I"⟩
abbrev cX5_highestSetting : ByteArray := prog_1_method_31_code
def yX5_highestSetting : MethodName := ⟨RX5, "highestSetting", "(I)I"⟩
abbrev cX5_settingAllowed : ByteArray := prog_1_method_32_code
def yX5_settingAllowed : MethodName := ⟨RX5, "settingAllowed", "(II)Z"⟩
abbrev cX5_outsideAllowed : ByteArray := prog_1_method_33_code
def yX5_outsideAllowed : MethodName := ⟨RX5, "outsideAllowed", "(I)Z"⟩
abbrev cX5_passAllowed : ByteArray := prog_1_method_34_code
def yX5_passAllowed : MethodName := ⟨RX5, "passAllowed", "(I)Z"⟩
abbrev cX5_wantedAllowed : ByteArray := prog_1_method_35_code
def yX5_wantedAllowed : MethodName := ⟨RX5, "wantedAllowed", "(I)Z"⟩
abbrev cX5_radiatorsAllowed : ByteArray := prog_1_method_36_code
def yX5_radiatorsAllowed : MethodName := ⟨RX5, "radiatorsAllowed", "(I)Z"⟩
abbrev cX5_leakAllowed : ByteArray := prog_1_method_37_code
def yX5_leakAllowed : MethodName := ⟨RX5, "leakAllowed", "(I)Z"⟩
abbrev cX5_roomNumberAllowed : ByteArray := prog_1_method_38_code
def yX5_roomNumberAllowed : MethodName := ⟨RX5, "roomNumberAllowed", "(II)Z"⟩
abbrev cX5_allRoomsGetWarm : ByteArray := prog_1_method_39_code
def yX5_allRoomsGetWarm : MethodName := ⟨RX5, "allRoomsGetWarm", "(LMixerStation$State;I)Z"⟩
abbrev cX5_longestScript : ByteArray := prog_1_method_40_code
def yX5_longestScript : MethodName := ⟨RX5, "longestScript", "(I)J"⟩
abbrev cX5_groupAt : ByteArray := prog_1_method_41_code
def yX5_groupAt : MethodName := ⟨RX5, "groupAt", "(IJI)I"⟩
abbrev cX5_commandSucceeds : ByteArray := prog_1_method_42_code
def yX5_commandSucceeds : MethodName := ⟨RX5, "commandSucceeds", "(LMixerStation$State;I)Z"⟩
abbrev cX5_outsideCommand : ByteArray := prog_1_method_43_code
def yX5_outsideCommand : MethodName := ⟨RX5, "outsideCommand", "(LMixerStation$State;I)Z"⟩
abbrev cX5_settingCommand : ByteArray := prog_1_method_44_code
def yX5_settingCommand : MethodName := ⟨RX5, "settingCommand", "(LMixerStation$State;II)Z"⟩
abbrev cX5_windowCommand : ByteArray := prog_1_method_45_code
def yX5_windowCommand : MethodName := ⟨RX5, "windowCommand", "(LMixerStation$State;IZ)Z"⟩
abbrev cX5_wantedCommand : ByteArray := prog_1_method_46_code
def yX5_wantedCommand : MethodName := ⟨RX5, "wantedCommand", "(LMixerStation$State;II)Z"⟩
def RX6 : String := "MixerStationModel"
def TX6 : u_T := fun k => match k with
  | 0 => ("MixerStationModel", "refusal", "I", false)
  | 1 => ("MixerStationModel", "script", "[I", true)
  | 2 => ("MixerStationModel", "scriptSize", "I", false)
  | 3 => ("MixerStationModel", "spot", "I", false)
  | 4 => ("MixerStationModel", "isGood", "Z", false)
  | 5 => ("MixerStationModel", "read", "[I", true)
  | 6 => ("MixerStationModel", "now", "[I", true)
  | 7 => ("MixerStationModel", "trial", "[I", true)
  | 8 => ("MixerStationModel", "diary", "[I", true)
  | 9 => ("MixerStationModel", "acts", "I", false)
  | 10 => ("MixerStationModel", "kept", "[I", true)
  | _ => ("MixerStationModel", "isKept", "[Z", true)
def tyX6 : Nat → FieldType := fun k => match k with
  | 0 => .int
  | 1 => .array .int
  | 2 => .int
  | 3 => .int
  | 4 => .boolean
  | 5 => .array .int
  | 6 => .array .int
  | 7 => .array .int
  | 8 => .array .int
  | 9 => .int
  | 10 => .array .int
  | _ => .array .boolean
abbrev wsX60 : List Cond := u_ws RX6 TX6 12
theorem nmX6 : ∀ a, a < 12 → ∀ b, b < 12 → a ≠ b → (TX6 a).2.1 ≠ (TX6 b).2.1 := by decide +kernel
theorem tyX6_ok : ∀ k, k < 12 → parseFieldDescriptor (TX6 k).2.2.1 = some (tyX6 k) := by decide +kernel
abbrev cX6_init : ByteArray := prog_8_method_1_code
def yX6_init : MethodName := ⟨RX6, "<init>", "()V"⟩
abbrev cX6_thrown : ByteArray := prog_8_method_2_code
def yX6_thrown : MethodName := ⟨RX6, "thrown", "()I"⟩
abbrev cX6_refused : ByteArray := prog_8_method_3_code
def yX6_refused : MethodName := ⟨RX6, "refused", "(I)Z"⟩
abbrev cX6_in : ByteArray := prog_8_method_4_code
def yX6_in : MethodName := ⟨RX6, "in", "(JJJ)Z"⟩
abbrev cX6_copy : ByteArray := prog_8_method_5_code
def yX6_copy : MethodName := ⟨RX6, "copy", "([II[III)V"⟩
abbrev cX6_tenTo : ByteArray := prog_8_method_6_code
def yX6_tenTo : MethodName := ⟨RX6, "tenTo", "(I)J"⟩
abbrev cX6_down : ByteArray := prog_8_method_7_code
def yX6_down : MethodName := ⟨RX6, "down", "(II)I"⟩
abbrev cX6_least : ByteArray := prog_8_method_8_code
def yX6_least : MethodName := ⟨RX6, "least", "(I)I"⟩
abbrev cX6_most : ByteArray := prog_8_method_9_code
def yX6_most : MethodName := ⟨RX6, "most", "(I)I"⟩
abbrev cX6_clean : ByteArray := prog_8_method_10_code
def yX6_clean : MethodName := ⟨RX6, "clean", "([I)V"⟩
abbrev cX6_note : ByteArray := prog_8_method_11_code
def yX6_note : MethodName := ⟨RX6, "note", "()V"⟩
abbrev cX6_begin : ByteArray := prog_8_method_12_code
def yX6_begin : MethodName := ⟨RX6, "begin", "()V"⟩
abbrev cX6_cell : ByteArray := prog_8_method_13_code
def yX6_cell : MethodName := ⟨RX6, "cell", "(II)I"⟩
abbrev cX6_isRoom : ByteArray := prog_8_method_14_code
def yX6_isRoom : MethodName := ⟨RX6, "isRoom", "(I)Z"⟩
abbrev cX6_isWarmPlace : ByteArray := prog_8_method_15_code
def yX6_isWarmPlace : MethodName := ⟨RX6, "isWarmPlace", "(I)Z"⟩
abbrev cX6_capacity : ByteArray := prog_8_method_16_code
def yX6_capacity : MethodName := ⟨RX6, "capacity", "([II)I"⟩
abbrev cX6_degrees : ByteArray := prog_8_method_17_code
def yX6_degrees : MethodName := ⟨RX6, "degrees", "([II)I"⟩
abbrev cX6_wayOf : ByteArray := prog_8_method_18_code
def yX6_wayOf : MethodName := ⟨RX6, "wayOf", "([III)I"⟩
abbrev cX6_movedOf : ByteArray := prog_8_method_19_code
def yX6_movedOf : MethodName := ⟨RX6, "movedOf", "([III)I"⟩
abbrev cX6_go : ByteArray := prog_8_method_20_code
def yX6_go : MethodName := ⟨RX6, "go", "([IIII)V"⟩
abbrev cX6_addTo : ByteArray := prog_8_method_21_code
def yX6_addTo : MethodName := ⟨RX6, "addTo", "([IIIII)V"⟩
abbrev cX6_wish : ByteArray := prog_8_method_22_code
def yX6_wish : MethodName := ⟨RX6, "wish", "([I)I"⟩
abbrev cX6_goSeason : ByteArray := prog_8_method_23_code
def yX6_goSeason : MethodName := ⟨RX6, "goSeason", "([I)V"⟩
abbrev cX6_turn : ByteArray := prog_8_method_24_code
def yX6_turn : MethodName := ⟨RX6, "turn", "([II)V"⟩
abbrev cX6_goBoiler : ByteArray := prog_8_method_25_code
def yX6_goBoiler : MethodName := ⟨RX6, "goBoiler", "([I)V"⟩
abbrev cX6_freeTarget : ByteArray := prog_8_method_26_code
def yX6_freeTarget : MethodName := ⟨RX6, "freeTarget", "([I)I"⟩
abbrev cX6_isPinched : ByteArray := prog_8_method_27_code
def yX6_isPinched : MethodName := ⟨RX6, "isPinched", "([I)Z"⟩
abbrev cX6_goValve : ByteArray := prog_8_method_28_code
def yX6_goValve : MethodName := ⟨RX6, "goValve", "([I)V"⟩
abbrev cX6_goMixing : ByteArray := prog_8_method_29_code
def yX6_goMixing : MethodName := ⟨RX6, "goMixing", "([I)V"⟩
abbrev cX6_goRadiators : ByteArray := prog_8_method_30_code
def yX6_goRadiators : MethodName := ⟨RX6, "goRadiators", "([II)V"⟩
abbrev cX6_goLeak : ByteArray := prog_8_method_31_code
def yX6_goLeak : MethodName := ⟨RX6, "goLeak", "([II)V"⟩
abbrev cX6_feels : ByteArray := prog_8_method_32_code
def yX6_feels : MethodName := ⟨RX6, "feels", "([II)Z"⟩
abbrev cX6_goMinute : ByteArray := prog_8_method_33_code
def yX6_goMinute : MethodName := ⟨RX6, "goMinute", "([I)I"⟩
abbrev cX6_goMinutes : ByteArray := prog_8_method_34_code
def yX6_goMinutes : MethodName := ⟨RX6, "goMinutes", "([II)I"⟩
abbrev cX6_append : ByteArray := prog_8_method_35_code
def yX6_append : MethodName := ⟨RX6, "append", "(I)I"⟩
abbrev cX6_clearText : ByteArray := prog_8_method_36_code
def yX6_clearText : MethodName := ⟨RX6, "clearText", "()I"⟩
abbrev cX6_isNext : ByteArray := prog_8_method_37_code
def yX6_isNext : MethodName := ⟨RX6, "isNext", "(I)Z"⟩
abbrev cX6_accept : ByteArray := prog_8_method_38_code
def yX6_accept : MethodName := ⟨RX6, "accept", "(Z)V"⟩
abbrev cX6_digit : ByteArray := prog_8_method_39_code
def yX6_digit : MethodName := ⟨RX6, "digit", "(II)I"⟩
abbrev cX6_two : ByteArray := prog_8_method_40_code
def yX6_two : MethodName := ⟨RX6, "two", "(II)I"⟩
abbrev cX6_readRoom : ByteArray := prog_8_method_41_code
def yX6_readRoom : MethodName := ⟨RX6, "readRoom", "()V"⟩
abbrev cX6_readOutside : ByteArray := prog_8_method_42_code
def yX6_readOutside : MethodName := ⟨RX6, "readOutside", "()V"⟩
abbrev cX6_readSetting : ByteArray := prog_8_method_43_code
def yX6_readSetting : MethodName := ⟨RX6, "readSetting", "()V"⟩
abbrev cX6_readText : ByteArray := prog_8_method_44_code
def yX6_readText : MethodName := ⟨RX6, "readText", "()I"⟩
abbrev cX6_errorPosition : ByteArray := prog_8_method_45_code
def yX6_errorPosition : MethodName := ⟨RX6, "errorPosition", "()I"⟩
abbrev cX6_load : ByteArray := prog_8_method_46_code
def yX6_load : MethodName := ⟨RX6, "load", "()I"⟩
abbrev cX6_allHeat : ByteArray := prog_8_method_47_code
def yX6_allHeat : MethodName := ⟨RX6, "allHeat", "([I)I"⟩
abbrev cX6_allOf : ByteArray := prog_8_method_48_code
def yX6_allOf : MethodName := ⟨RX6, "allOf", "([II)I"⟩
abbrev cX6_about : ByteArray := prog_8_method_49_code
def yX6_about : MethodName := ⟨RX6, "about", "(I)I"⟩
abbrev cX6_setting : ByteArray := prog_8_method_50_code
def yX6_setting : MethodName := ⟨RX6, "setting", "(I)I"⟩
abbrev cX6_place : ByteArray := prog_8_method_51_code
def yX6_place : MethodName := ⟨RX6, "place", "(II)I"⟩
abbrev cX6_room : ByteArray := prog_8_method_52_code
def yX6_room : MethodName := ⟨RX6, "room", "(II)I"⟩
abbrev cX6_moved : ByteArray := prog_8_method_53_code
def yX6_moved : MethodName := ⟨RX6, "moved", "(II)I"⟩
abbrev cX6_way : ByteArray := prog_8_method_54_code
def yX6_way : MethodName := ⟨RX6, "way", "(II)I"⟩
abbrev cX6_addRoom : ByteArray := prog_8_method_55_code
def yX6_addRoom : MethodName := ⟨RX6, "addRoom", "(IIII)I"⟩
abbrev cX6_setRoom : ByteArray := prog_8_method_56_code
def yX6_setRoom : MethodName := ⟨RX6, "setRoom", "(III)I"⟩
abbrev cX6_window : ByteArray := prog_8_method_57_code
def yX6_window : MethodName := ⟨RX6, "window", "(IZ)I"⟩
abbrev cX6_isSetting : ByteArray := prog_8_method_58_code
def yX6_isSetting : MethodName := ⟨RX6, "isSetting", "(II)Z"⟩
abbrev cX6_set : ByteArray := prog_8_method_59_code
def yX6_set : MethodName := ⟨RX6, "set", "(II)I"⟩
abbrev cX6_isOutside : ByteArray := prog_8_method_60_code
def yX6_isOutside : MethodName := ⟨RX6, "isOutside", "(I)Z"⟩
abbrev cX6_outside : ByteArray := prog_8_method_61_code
def yX6_outside : MethodName := ⟨RX6, "outside", "(I)I"⟩
abbrev cX6_pass : ByteArray := prog_8_method_62_code
def yX6_pass : MethodName := ⟨RX6, "pass", "(I)I"⟩
abbrev cX6_undo : ByteArray := prog_8_method_63_code
def yX6_undo : MethodName := ⟨RX6, "undo", "()I"⟩
abbrev cX6_isAhead : ByteArray := prog_8_method_64_code
def yX6_isAhead : MethodName := ⟨RX6, "isAhead", "(I)Z"⟩
abbrev cX6_ahead : ByteArray := prog_8_method_65_code
def yX6_ahead : MethodName := ⟨RX6, "ahead", "(II)I"⟩
abbrev cX6_minutesTo : ByteArray := prog_8_method_66_code
def yX6_minutesTo : MethodName := ⟨RX6, "minutesTo", "(I)I"⟩
abbrev cX6_whyOff : ByteArray := prog_8_method_67_code
def yX6_whyOff : MethodName := ⟨RX6, "whyOff", "()I"⟩
abbrev cX6_whyShare : ByteArray := prog_8_method_68_code
def yX6_whyShare : MethodName := ⟨RX6, "whyShare", "()I"⟩
abbrev cX6_bestSlope : ByteArray := prog_8_method_69_code
def yX6_bestSlope : MethodName := ⟨RX6, "bestSlope", "(I)I"⟩
abbrev cX6_allReach : ByteArray := prog_8_method_70_code
def yX6_allReach : MethodName := ⟨RX6, "allReach", "(I)Z"⟩
abbrev cX6_leastPower : ByteArray := prog_8_method_71_code
def yX6_leastPower : MethodName := ⟨RX6, "leastPower", "(I)I"⟩
abbrev cX6_heatFor : ByteArray := prog_8_method_72_code
def yX6_heatFor : MethodName := ⟨RX6, "heatFor", "(I)I"⟩
abbrev cX6_does : ByteArray := prog_8_method_73_code
def yX6_does : MethodName := ⟨RX6, "does", "(I)Z"⟩
abbrev cX6_runScript : ByteArray := prog_8_method_74_code
def yX6_runScript : MethodName := ⟨RX6, "runScript", "(IJ)I"⟩
abbrev cX6_simulate : ByteArray := prog_8_method_75_code
def yX6_simulate : MethodName := ⟨RX6, "simulate", "(JI)J"⟩
abbrev cX6_save : ByteArray := prog_8_method_76_code
def yX6_save : MethodName := ⟨RX6, "save", "(I)I"⟩
abbrev cX6_restore : ByteArray := prog_8_method_77_code
def yX6_restore : MethodName := ⟨RX6, "restore", "(I)I"⟩
def RJ9 : String := "java/lang/Math"
def TJ9 : u_T := fun k => match k with
  | _ => ("", "", "", false)
def tyJ9 : Nat → FieldType := fun k => match k with
  | _ => .int
abbrev wsJ90 : List Cond := u_ws RJ9 TJ9 0
theorem nmJ9 : ∀ a, a < 0 → ∀ b, b < 0 → a ≠ b → (TJ9 a).2.1 ≠ (TJ9 b).2.1 := by decide +kernel
theorem tyJ9_ok : ∀ k, k < 0 → parseFieldDescriptor (TJ9 k).2.2.1 = some (tyJ9 k) := by decide +kernel
abbrev cJ9_floorDiv_7cf53 : ByteArray := prog_13_method_47_code
def yJ9_floorDiv_7cf53 : MethodName := ⟨RJ9, "floorDiv", "(II)I"⟩
abbrev cJ9_max_7cf53 : ByteArray := prog_13_method_65_code
def yJ9_max_7cf53 : MethodName := ⟨RJ9, "max", "(II)I"⟩
abbrev cJ9_min_7cf53 : ByteArray := prog_13_method_69_code
def yJ9_min_7cf53 : MethodName := ⟨RJ9, "min", "(II)I"⟩
def RJ0 : String := "java/lang/String"
def TJ0 : u_T := fun k => match k with
  | _ => ("", "", "", false)
def tyJ0 : Nat → FieldType := fun k => match k with
  | _ => .int
abbrev wsJ00 : List Cond := u_ws RJ0 TJ0 0
theorem nmJ0 : ∀ a, a < 0 → ∀ b, b < 0 → a ≠ b → (TJ0 a).2.1 ≠ (TJ0 b).2.1 := by decide +kernel
theorem tyJ0_ok : ∀ k, k < 0 → parseFieldDescriptor (TJ0 k).2.2.1 = some (tyJ0 k) := by decide +kernel
def RJ10 : String := "java/lang/System"
def TJ10 : u_T := fun k => match k with
  | _ => ("", "", "", false)
def tyJ10 : Nat → FieldType := fun k => match k with
  | _ => .int
abbrev wsJ100 : List Cond := u_ws RJ10 TJ10 0
theorem nmJ10 : ∀ a, a < 0 → ∀ b, b < 0 → a ≠ b → (TJ10 a).2.1 ≠ (TJ10 b).2.1 := by decide +kernel
theorem tyJ10_ok : ∀ k, k < 0 → parseFieldDescriptor (TJ10 k).2.2.1 = some (tyJ10 k) := by decide +kernel
def RL : String := "MixerStationLaw"
abbrev cL_append : ByteArray := method_3_code
def yL_append : MethodName := ⟨RL, "append", "(LMixerStation;I[J)I"⟩
abbrev cL_load : ByteArray := method_4_code
def yL_load : MethodName := ⟨RL, "load", "(LMixerStation;[J)I"⟩
abbrev cL_about : ByteArray := method_5_code
def yL_about : MethodName := ⟨RL, "about", "(LMixerStation;I[J)I"⟩
abbrev cL_setting : ByteArray := method_6_code
def yL_setting : MethodName := ⟨RL, "setting", "(LMixerStation;I[J)I"⟩
abbrev cL_place : ByteArray := method_7_code
def yL_place : MethodName := ⟨RL, "place", "(LMixerStation;II[J)I"⟩
abbrev cL_room : ByteArray := method_8_code
def yL_room : MethodName := ⟨RL, "room", "(LMixerStation;II[J)I"⟩
abbrev cL_moved : ByteArray := method_9_code
def yL_moved : MethodName := ⟨RL, "moved", "(LMixerStation;II[J)I"⟩
abbrev cL_way : ByteArray := method_10_code
def yL_way : MethodName := ⟨RL, "way", "(LMixerStation;II[J)I"⟩
abbrev cL_addRoom : ByteArray := method_11_code
def yL_addRoom : MethodName := ⟨RL, "addRoom", "(LMixerStation;IIII[J)I"⟩
abbrev cL_setRoom : ByteArray := method_12_code
def yL_setRoom : MethodName := ⟨RL, "setRoom", "(LMixerStation;III[J)I"⟩
abbrev cL_window : ByteArray := method_13_code
def yL_window : MethodName := ⟨RL, "window", "(LMixerStation;IZ[J)I"⟩
abbrev cL_set : ByteArray := method_14_code
def yL_set : MethodName := ⟨RL, "set", "(LMixerStation;II[J)I"⟩
abbrev cL_outside : ByteArray := method_15_code
def yL_outside : MethodName := ⟨RL, "outside", "(LMixerStation;I[J)I"⟩
abbrev cL_pass : ByteArray := method_16_code
def yL_pass : MethodName := ⟨RL, "pass", "(LMixerStation;I[J)I"⟩
abbrev cL_undo : ByteArray := method_17_code
def yL_undo : MethodName := ⟨RL, "undo", "(LMixerStation;[J)I"⟩
abbrev cL_ahead : ByteArray := method_18_code
def yL_ahead : MethodName := ⟨RL, "ahead", "(LMixerStation;II[J)I"⟩
abbrev cL_minutesTo : ByteArray := method_19_code
def yL_minutesTo : MethodName := ⟨RL, "minutesTo", "(LMixerStation;I[J)I"⟩
abbrev cL_bestSlope : ByteArray := method_20_code
def yL_bestSlope : MethodName := ⟨RL, "bestSlope", "(LMixerStation;I[J)I"⟩
abbrev cL_leastPower : ByteArray := method_21_code
def yL_leastPower : MethodName := ⟨RL, "leastPower", "(LMixerStation;I[J)I"⟩
abbrev cL_heatFor : ByteArray := method_22_code
def yL_heatFor : MethodName := ⟨RL, "heatFor", "(LMixerStation;I[J)I"⟩
abbrev cL_runScript : ByteArray := method_23_code
def yL_runScript : MethodName := ⟨RL, "runScript", "(LMixerStation;IJ[J)I"⟩
abbrev cL_simulate : ByteArray := method_24_code
def yL_simulate : MethodName := ⟨RL, "simulate", "(LMixerStation;JI[J)I"⟩
abbrev cL_save : ByteArray := method_25_code
def yL_save : MethodName := ⟨RL, "save", "(LMixerStation;I[J)I"⟩
abbrev cL_restore : ByteArray := method_26_code
def yL_restore : MethodName := ⟨RL, "restore", "(LMixerStation;I[J)I"⟩
abbrev cL_law : ByteArray := code
def yL_law : MethodName := ⟨RL, "law", "([I)Z"⟩
abbrev vwCl : List vw_C := [(RX0, TX0, 2), (RX1, TX1, 4), (RX2, TX2, 7), (RX3, TX3, 14), (RX4, TX4, 3), (RX5, TX5, 7), (RX6, TX6, 12)]
end
section
/-- the words that every method may use: those of the tables that stay true as the machine goes on -/
def UW : List Cond := lw_tbl.filter goodWord
theorem uw_in {w : Cond} (h : w ∈ lw_tbl) (hg : goodWord w = true) : w ∈ UW := List.mem_filter.mpr ⟨h, hg⟩
theorem uw_tb {w : Cond} (i : Nat) (h : tables_1[i]? = some w) (hg : goodWord w = true) : w ∈ UW := uw_in (List.mem_append_right _ (List.mem_of_getElem? h)) hg
theorem uw_t1 {w : Cond} (i : Nat) (h : tables_1_1[i]? = some w) (hg : goodWord w = true) : w ∈ UW := uw_in (List.mem_append_right _ (show w ∈ tables_1 from List.mem_append_left _ (List.mem_of_getElem? h))) hg
theorem uw_t2 {w : Cond} (i : Nat) (h : tables_1_2[i]? = some w) (hg : goodWord w = true) : w ∈ UW := uw_in (List.mem_append_right _ (show w ∈ tables_1 from List.mem_append_right _ (List.mem_append_left _ (List.mem_of_getElem? h)))) hg
theorem uw_t3 {w : Cond} (i : Nat) (h : tables_1_3[i]? = some w) (hg : goodWord w = true) : w ∈ UW := uw_in (List.mem_append_right _ (show w ∈ tables_1 from List.mem_append_right _ (List.mem_append_right _ (List.mem_append_left _ (List.mem_of_getElem? h))))) hg
theorem uw_t4 {w : Cond} (i : Nat) (h : tables_1_4[i]? = some w) (hg : goodWord w = true) : w ∈ UW := uw_in (List.mem_append_right _ (show w ∈ tables_1 from List.mem_append_right _ (List.mem_append_right _ (List.mem_append_right _ (List.mem_append_left _ (List.mem_of_getElem? h)))))) hg
theorem uw_t5 {w : Cond} (i : Nat) (h : tables_1_5[i]? = some w) (hg : goodWord w = true) : w ∈ UW := uw_in (List.mem_append_right _ (show w ∈ tables_1 from List.mem_append_right _ (List.mem_append_right _ (List.mem_append_right _ (List.mem_append_right _ (List.mem_of_getElem? h)))))) hg
theorem mw_0 : (Jvm.Cond.initialized "MixerStationLaw") ∈ UW := uw_t1 0 rfl rfl
theorem mw_1 : (Jvm.Cond.initialized "MixerStation") ∈ UW := uw_t1 1 rfl rfl
theorem mw_2 : (Jvm.Cond.initialized "MixerStation$State") ∈ UW := uw_t1 2 rfl rfl
theorem mw_3 : (Jvm.Cond.initialized "MixerStation$Ledger") ∈ UW := uw_t1 3 rfl rfl
theorem mw_4 : (Jvm.Cond.initialized "MixerStation$Room") ∈ UW := uw_t1 4 rfl rfl
theorem mw_5 : (Jvm.Cond.initialized "java/lang/System") ∈ UW := uw_t1 5 rfl rfl
theorem mw_6 : (Jvm.Cond.initialized "MixerStation$History") ∈ UW := uw_t1 6 rfl rfl
theorem mw_7 : (Jvm.Cond.initialized "MixerStationModel") ∈ UW := uw_t1 7 rfl rfl
theorem mw_8 : (Jvm.Cond.initialized "java/lang/Throwable") ∈ UW := uw_t1 8 rfl rfl
theorem mw_9 : (Jvm.Cond.initialized "java/lang/Exception") ∈ UW := uw_t1 9 rfl rfl
theorem mw_10 : (Jvm.Cond.initialized "java/lang/RuntimeException") ∈ UW := uw_t1 10 rfl rfl
theorem mw_11 : (Jvm.Cond.initialized "java/lang/IllegalArgumentException") ∈ UW := uw_t1 11 rfl rfl
theorem mw_12 : (Jvm.Cond.initialized "java/lang/IllegalStateException") ∈ UW := uw_t1 12 rfl rfl
theorem mw_13 : (Jvm.Cond.initialized "MixerStation$StationReader") ∈ UW := uw_t1 13 rfl rfl
theorem mw_14 : (Jvm.Cond.initialized "java/lang/Math") ∈ UW := uw_t1 14 rfl rfl
theorem mw_15 : (Jvm.Cond.initialized "java/lang/IndexOutOfBoundsException") ∈ UW := uw_t1 15 rfl rfl
theorem mw_16 : (Jvm.Cond.classLink "MixerStationLaw" (8 : Nat) "MixerStation") ∈ UW := uw_t1 16 rfl rfl
theorem mw_17 : (Jvm.Cond.instantiable "MixerStation" (7 : Nat)) ∈ UW := uw_t1 17 rfl rfl
theorem mw_18 : (Jvm.Cond.methodLink "MixerStationLaw" (95 : Nat) ({ cls := "MixerStation", name := "<init>", desc := "()V" } : Jvm.MethodName)) ∈ UW := uw_t1 18 rfl rfl
theorem mw_19 : (Jvm.Cond.instanceMethod ({ cls := "MixerStation", name := "<init>", desc := "()V" } : Jvm.MethodName)) ∈ UW := uw_t1 19 rfl rfl
theorem mw_20 : (Jvm.Cond.code ({ cls := "MixerStation", name := "<init>", desc := "()V" } : Jvm.MethodName) prog_1_method_1_code (2 : Nat) (Option.none : Option Jvm.ClassFile.FieldType)) ∈ UW := uw_t1 20 rfl rfl
theorem mw_21 : (Jvm.Cond.methodLink "MixerStation" (3 : Nat) ({ cls := "java/lang/Object", name := "<init>", desc := "()V" } : Jvm.MethodName)) ∈ UW := uw_t1 21 rfl rfl
theorem mw_22 : (Jvm.Cond.instanceMethod ({ cls := "java/lang/Object", name := "<init>", desc := "()V" } : Jvm.MethodName)) ∈ UW := uw_t1 22 rfl rfl
theorem mw_23 : (Jvm.Cond.code ({ cls := "java/lang/Object", name := "<init>", desc := "()V" } : Jvm.MethodName) object_method_1_code (1 : Nat) (Option.none : Option Jvm.ClassFile.FieldType)) ∈ UW := uw_t1 23 rfl rfl
theorem mw_24 : (Jvm.Cond.classLink "MixerStation" (13 : Nat) "MixerStation$State") ∈ UW := uw_t1 24 rfl rfl
theorem mw_25 : (Jvm.Cond.instantiable "MixerStation$State" (14 : Nat)) ∈ UW := uw_t1 25 rfl rfl
theorem mw_26 : (Jvm.Cond.methodLink "MixerStation" (15 : Nat) ({ cls := "MixerStation$State", name := "<init>", desc := "()V" } : Jvm.MethodName)) ∈ UW := uw_t1 26 rfl rfl
theorem mw_27 : (Jvm.Cond.instanceMethod ({ cls := "MixerStation$State", name := "<init>", desc := "()V" } : Jvm.MethodName)) ∈ UW := uw_t1 27 rfl rfl
theorem mw_28 : (Jvm.Cond.code ({ cls := "MixerStation$State", name := "<init>", desc := "()V" } : Jvm.MethodName) prog_5_method_1_code (2 : Nat) (Option.none : Option Jvm.ClassFile.FieldType)) ∈ UW := uw_t1 28 rfl rfl
theorem mw_29 : (Jvm.Cond.methodLink "MixerStation$State" (3 : Nat) ({ cls := "java/lang/Object", name := "<init>", desc := "()V" } : Jvm.MethodName)) ∈ UW := uw_t1 29 rfl rfl
theorem mw_30 : (Jvm.Cond.classLink "MixerStation$State" (21 : Nat) "MixerStation$Room") ∈ UW := uw_t1 30 rfl rfl
theorem mw_32 : (Jvm.Cond.classLink "MixerStation$State" (27 : Nat) "MixerStation$Ledger") ∈ UW := uw_t1 32 rfl rfl
theorem mw_33 : (Jvm.Cond.instantiable "MixerStation$Ledger" (4 : Nat)) ∈ UW := uw_t1 33 rfl rfl
theorem mw_35 : (Jvm.Cond.instanceMethod ({ cls := "MixerStation$Ledger", name := "<init>", desc := "()V" } : Jvm.MethodName)) ∈ UW := uw_t1 35 rfl rfl
theorem mw_36 : (Jvm.Cond.code ({ cls := "MixerStation$Ledger", name := "<init>", desc := "()V" } : Jvm.MethodName) prog_3_method_1_code (1 : Nat) (Option.none : Option Jvm.ClassFile.FieldType)) ∈ UW := uw_t1 36 rfl rfl
theorem mw_37 : (Jvm.Cond.methodLink "MixerStation$Ledger" (3 : Nat) ({ cls := "java/lang/Object", name := "<init>", desc := "()V" } : Jvm.MethodName)) ∈ UW := uw_t1 37 rfl rfl
theorem mw_38 : (Jvm.Cond.fieldLink "MixerStation$Ledger" (9 : Nat) "MixerStation$Ledger" "from" "[I") ∈ UW := uw_t1 38 rfl rfl
theorem mw_39 : (Jvm.Cond.fieldLink "MixerStation" (196 : Nat) "MixerStation$Ledger" "from" "[I") ∈ UW := uw_t1 39 rfl rfl
theorem mw_40 : (Jvm.Cond.fieldLink "MixerStation$Ledger" (15 : Nat) "MixerStation$Ledger" "to" "[I") ∈ UW := uw_t1 40 rfl rfl
theorem mw_41 : (Jvm.Cond.fieldLink "MixerStation" (200 : Nat) "MixerStation$Ledger" "to" "[I") ∈ UW := uw_t1 41 rfl rfl
theorem mw_42 : (Jvm.Cond.fieldLink "MixerStation$Ledger" (18 : Nat) "MixerStation$Ledger" "sum" "[I") ∈ UW := uw_t1 42 rfl rfl
theorem mw_43 : (Jvm.Cond.fieldLink "MixerStation" (203 : Nat) "MixerStation$Ledger" "sum" "[I") ∈ UW := uw_t1 43 rfl rfl
theorem mw_44 : (Jvm.Cond.fieldLink "MixerStation$Ledger" (27 : Nat) "MixerStation$Ledger" "count" "I") ∈ UW := uw_t1 44 rfl rfl
theorem mw_45 : (Jvm.Cond.fieldLink "MixerStation$State" (67 : Nat) "MixerStation$Ledger" "count" "I") ∈ UW := uw_t1 45 rfl rfl
theorem mw_46 : (Jvm.Cond.fieldLink "MixerStation" (115 : Nat) "MixerStation$Ledger" "count" "I") ∈ UW := uw_t1 46 rfl rfl
theorem mw_47 : (Jvm.Cond.laysFinal "MixerStation$Ledger" "MixerStation$Ledger" "from" "[I") ∈ UW := uw_t1 47 rfl rfl
theorem mw_49 : (Jvm.Cond.laysFinal "MixerStation$Ledger" "MixerStation$Ledger" "to" "[I") ∈ UW := uw_t1 49 rfl rfl
theorem mw_51 : (Jvm.Cond.laysFinal "MixerStation$Ledger" "MixerStation$Ledger" "sum" "[I") ∈ UW := uw_t1 51 rfl rfl
theorem mw_53 : (Jvm.Cond.lays "MixerStation$Ledger" "MixerStation$Ledger" "count" "I") ∈ UW := uw_t1 53 rfl rfl
theorem mw_56 : (Jvm.Cond.arrayClass Jvm.ClassFile.FieldType.char) ∈ UW := uw_t1 56 rfl rfl
theorem mw_57 : (Jvm.Cond.arrayClass Jvm.ClassFile.FieldType.int) ∈ UW := uw_t1 57 rfl rfl
theorem mw_58 : (Jvm.Cond.instantiable "MixerStation$Room" (7 : Nat)) ∈ UW := uw_t1 58 rfl rfl
theorem mw_60 : (Jvm.Cond.instanceMethod ({ cls := "MixerStation$Room", name := "<init>", desc := "()V" } : Jvm.MethodName)) ∈ UW := uw_t1 60 rfl rfl
theorem mw_61 : (Jvm.Cond.code ({ cls := "MixerStation$Room", name := "<init>", desc := "()V" } : Jvm.MethodName) prog_4_method_1_code (1 : Nat) (Option.none : Option Jvm.ClassFile.FieldType)) ∈ UW := uw_t1 61 rfl rfl
theorem mw_62 : (Jvm.Cond.methodLink "MixerStation$Room" (1 : Nat) ({ cls := "java/lang/Object", name := "<init>", desc := "()V" } : Jvm.MethodName)) ∈ UW := uw_t1 62 rfl rfl
theorem mw_63 : (Jvm.Cond.fieldLink "MixerStation$Room" (7 : Nat) "MixerStation$Room" "wanted" "I") ∈ UW := uw_t1 63 rfl rfl
theorem mw_64 : (Jvm.Cond.fieldLink "MixerStation" (160 : Nat) "MixerStation$Room" "wanted" "I") ∈ UW := uw_t1 64 rfl rfl
theorem mw_65 : (Jvm.Cond.fieldLink "MixerStation$State" (116 : Nat) "MixerStation$Room" "wanted" "I") ∈ UW := uw_t1 65 rfl rfl
theorem mw_66 : (Jvm.Cond.fieldLink "MixerStation$Room" (13 : Nat) "MixerStation$Room" "radiators" "I") ∈ UW := uw_t1 66 rfl rfl
theorem mw_67 : (Jvm.Cond.fieldLink "MixerStation" (165 : Nat) "MixerStation$Room" "radiators" "I") ∈ UW := uw_t1 67 rfl rfl
theorem mw_68 : (Jvm.Cond.fieldLink "MixerStation$State" (169 : Nat) "MixerStation$Room" "radiators" "I") ∈ UW := uw_t1 68 rfl rfl
theorem mw_69 : (Jvm.Cond.fieldLink "MixerStation$Room" (16 : Nat) "MixerStation$Room" "leak" "I") ∈ UW := uw_t1 69 rfl rfl
theorem mw_70 : (Jvm.Cond.fieldLink "MixerStation" (168 : Nat) "MixerStation$Room" "leak" "I") ∈ UW := uw_t1 70 rfl rfl
theorem mw_71 : (Jvm.Cond.fieldLink "MixerStation$State" (172 : Nat) "MixerStation$Room" "leak" "I") ∈ UW := uw_t1 71 rfl rfl
theorem mw_72 : (Jvm.Cond.fieldLink "MixerStation$Room" (19 : Nat) "MixerStation$Room" "open" "Z") ∈ UW := uw_t1 72 rfl rfl
theorem mw_73 : (Jvm.Cond.fieldLink "MixerStation$State" (90 : Nat) "MixerStation$Room" "open" "Z") ∈ UW := uw_t1 73 rfl rfl
theorem mw_74 : (Jvm.Cond.fieldLink "MixerStation" (171 : Nat) "MixerStation$Room" "open" "Z") ∈ UW := uw_t1 74 rfl rfl
theorem mw_75 : (Jvm.Cond.fieldLink "MixerStation$Room" (23 : Nat) "MixerStation$Room" "comfort" "I") ∈ UW := uw_t1 75 rfl rfl
theorem mw_76 : (Jvm.Cond.fieldLink "MixerStation" (174 : Nat) "MixerStation$Room" "comfort" "I") ∈ UW := uw_t1 76 rfl rfl
theorem mw_77 : (Jvm.Cond.fieldLink "MixerStation$State" (106 : Nat) "MixerStation$Room" "comfort" "I") ∈ UW := uw_t1 77 rfl rfl
theorem mw_78 : (Jvm.Cond.fieldLink "MixerStation$Room" (26 : Nat) "MixerStation$Room" "cold" "I") ∈ UW := uw_t1 78 rfl rfl
theorem mw_79 : (Jvm.Cond.fieldLink "MixerStation" (177 : Nat) "MixerStation$Room" "cold" "I") ∈ UW := uw_t1 79 rfl rfl
theorem mw_80 : (Jvm.Cond.fieldLink "MixerStation$Room" (29 : Nat) "MixerStation$Room" "warm" "I") ∈ UW := uw_t1 80 rfl rfl
theorem mw_81 : (Jvm.Cond.fieldLink "MixerStation" (180 : Nat) "MixerStation$Room" "warm" "I") ∈ UW := uw_t1 81 rfl rfl
theorem mw_82 : (Jvm.Cond.lays "MixerStation$Room" "MixerStation$Room" "wanted" "I") ∈ UW := uw_t1 82 rfl rfl
theorem mw_84 : (Jvm.Cond.lays "MixerStation$Room" "MixerStation$Room" "radiators" "I") ∈ UW := uw_t1 84 rfl rfl
theorem mw_86 : (Jvm.Cond.lays "MixerStation$Room" "MixerStation$Room" "leak" "I") ∈ UW := uw_t1 86 rfl rfl
theorem mw_88 : (Jvm.Cond.lays "MixerStation$Room" "MixerStation$Room" "open" "Z") ∈ UW := uw_t1 88 rfl rfl
theorem mw_90 : (Jvm.Cond.lays "MixerStation$Room" "MixerStation$Room" "comfort" "I") ∈ UW := uw_t1 90 rfl rfl
theorem mw_92 : (Jvm.Cond.lays "MixerStation$Room" "MixerStation$Room" "cold" "I") ∈ UW := uw_t1 92 rfl rfl
theorem mw_94 : (Jvm.Cond.lays "MixerStation$Room" "MixerStation$Room" "warm" "I") ∈ UW := uw_t1 94 rfl rfl
theorem mw_97 : (Jvm.Cond.methodLink "MixerStation$State" (35 : Nat) ({ cls := "MixerStation$State", name := "beginAnew", desc := "()V" } : Jvm.MethodName)) ∈ UW := uw_t1 97 rfl rfl
theorem mw_98 : (Jvm.Cond.instanceMethod ({ cls := "MixerStation$State", name := "beginAnew", desc := "()V" } : Jvm.MethodName)) ∈ UW := uw_t1 98 rfl rfl
theorem mw_99 : (Jvm.Cond.selects "MixerStation$State" ({ cls := "MixerStation$State", name := "beginAnew", desc := "()V" } : Jvm.MethodName) ({ cls := "MixerStation$State", name := "beginAnew", desc := "()V" } : Jvm.MethodName)) ∈ UW := uw_t1 99 rfl rfl
theorem mw_100 : (Jvm.Cond.code ({ cls := "MixerStation$State", name := "beginAnew", desc := "()V" } : Jvm.MethodName) prog_5_method_2_code (1 : Nat) (Option.none : Option Jvm.ClassFile.FieldType)) ∈ UW := uw_t1 100 rfl rfl
theorem mw_103 : (Jvm.Cond.methodLink "MixerStation$State" (73 : Nat) ({ cls := "java/lang/System", name := "arraycopy", desc := "(Ljava/lang/Object;ILjava/lang/Object;II)V" } : Jvm.MethodName)) ∈ UW := uw_t1 103 rfl rfl
theorem mw_104 : (Jvm.Cond.static ({ cls := "java/lang/System", name := "arraycopy", desc := "(Ljava/lang/Object;ILjava/lang/Object;II)V" } : Jvm.MethodName)) ∈ UW := uw_t1 104 rfl rfl
theorem mw_105 : (Jvm.Cond.native ({ cls := "java/lang/System", name := "arraycopy", desc := "(Ljava/lang/Object;ILjava/lang/Object;II)V" } : Jvm.MethodName)) ∈ UW := uw_t1 105 rfl rfl
theorem mw_106 : (Jvm.Cond.fieldLink "MixerStation$State" (38 : Nat) "MixerStation$State" "minutes" "I") ∈ UW := uw_t1 106 rfl rfl
theorem mw_107 : (Jvm.Cond.fieldLink "MixerStation" (79 : Nat) "MixerStation$State" "minutes" "I") ∈ UW := uw_t1 107 rfl rfl
theorem mw_108 : (Jvm.Cond.fieldLink "MixerStation$State" (42 : Nat) "MixerStation$State" "outdoors" "I") ∈ UW := uw_t1 108 rfl rfl
theorem mw_109 : (Jvm.Cond.fieldLink "MixerStation" (82 : Nat) "MixerStation$State" "outdoors" "I") ∈ UW := uw_t1 109 rfl rfl
theorem mw_110 : (Jvm.Cond.fieldLink "MixerStation$StationReader" (71 : Nat) "MixerStation$State" "outdoors" "I") ∈ UW := uw_t1 110 rfl rfl
theorem mw_111 : (Jvm.Cond.fieldLink "MixerStation$State" (45 : Nat) "MixerStation$State" "burning" "Z") ∈ UW := uw_t1 111 rfl rfl
theorem mw_112 : (Jvm.Cond.fieldLink "MixerStation" (85 : Nat) "MixerStation$State" "burning" "Z") ∈ UW := uw_t1 112 rfl rfl
theorem mw_113 : (Jvm.Cond.fieldLink "MixerStation$State" (49 : Nat) "MixerStation$State" "sinceSwitch" "I") ∈ UW := uw_t1 113 rfl rfl
theorem mw_114 : (Jvm.Cond.fieldLink "MixerStation" (89 : Nat) "MixerStation$State" "sinceSwitch" "I") ∈ UW := uw_t1 114 rfl rfl
theorem mw_115 : (Jvm.Cond.fieldLink "MixerStation$State" (52 : Nat) "MixerStation$State" "starts" "I") ∈ UW := uw_t1 115 rfl rfl
theorem mw_116 : (Jvm.Cond.fieldLink "MixerStation" (105 : Nat) "MixerStation$State" "starts" "I") ∈ UW := uw_t1 116 rfl rfl
theorem mw_117 : (Jvm.Cond.fieldLink "MixerStation$State" (55 : Nat) "MixerStation$State" "share" "I") ∈ UW := uw_t1 117 rfl rfl
theorem mw_118 : (Jvm.Cond.fieldLink "MixerStation" (92 : Nat) "MixerStation$State" "share" "I") ∈ UW := uw_t1 118 rfl rfl
theorem mw_119 : (Jvm.Cond.fieldLink "MixerStation$State" (58 : Nat) "MixerStation$State" "summer" "Z") ∈ UW := uw_t1 119 rfl rfl
theorem mw_120 : (Jvm.Cond.fieldLink "MixerStation" (95 : Nat) "MixerStation$State" "summer" "Z") ∈ UW := uw_t1 120 rfl rfl
theorem mw_121 : (Jvm.Cond.fieldLink "MixerStation$State" (61 : Nat) "MixerStation$State" "seasonCounter" "I") ∈ UW := uw_t1 121 rfl rfl
theorem mw_122 : (Jvm.Cond.fieldLink "MixerStation" (98 : Nat) "MixerStation$State" "seasonCounter" "I") ∈ UW := uw_t1 122 rfl rfl
theorem mw_123 : (Jvm.Cond.fieldLink "MixerStation$State" (64 : Nat) "MixerStation$State" "roomCount" "I") ∈ UW := uw_t1 123 rfl rfl
theorem mw_124 : (Jvm.Cond.fieldLink "MixerStation" (76 : Nat) "MixerStation$State" "roomCount" "I") ∈ UW := uw_t1 124 rfl rfl
theorem mw_125 : (Jvm.Cond.fieldLink "MixerStation$State" (9 : Nat) "MixerStation$State" "settings" "[I") ∈ UW := uw_t1 125 rfl rfl
theorem mw_126 : (Jvm.Cond.fieldLink "MixerStation$State" (15 : Nat) "MixerStation$State" "heat" "[I") ∈ UW := uw_t1 126 rfl rfl
theorem mw_127 : (Jvm.Cond.fieldLink "MixerStation$State" (18 : Nat) "MixerStation$State" "capacity" "[I") ∈ UW := uw_t1 127 rfl rfl
theorem mw_128 : (Jvm.Cond.fieldLink "MixerStation$State" (23 : Nat) "MixerStation$State" "rooms" "[LMixerStation$Room;") ∈ UW := uw_t1 128 rfl rfl
theorem mw_129 : (Jvm.Cond.fieldLink "MixerStation" (156 : Nat) "MixerStation$State" "rooms" "[LMixerStation$Room;") ∈ UW := uw_t1 129 rfl rfl
theorem mw_130 : (Jvm.Cond.fieldLink "MixerStation$State" (30 : Nat) "MixerStation$State" "ledger" "LMixerStation$Ledger;") ∈ UW := uw_t1 130 rfl rfl
theorem mw_131 : (Jvm.Cond.fieldLink "MixerStation" (111 : Nat) "MixerStation$State" "ledger" "LMixerStation$Ledger;") ∈ UW := uw_t1 131 rfl rfl
theorem mw_132 : (Jvm.Cond.lays "MixerStation$State" "MixerStation$State" "minutes" "I") ∈ UW := uw_t1 132 rfl rfl
theorem mw_134 : (Jvm.Cond.lays "MixerStation$State" "MixerStation$State" "outdoors" "I") ∈ UW := uw_t1 134 rfl rfl
theorem mw_136 : (Jvm.Cond.lays "MixerStation$State" "MixerStation$State" "burning" "Z") ∈ UW := uw_t1 136 rfl rfl
theorem mw_138 : (Jvm.Cond.lays "MixerStation$State" "MixerStation$State" "sinceSwitch" "I") ∈ UW := uw_t1 138 rfl rfl
theorem mw_140 : (Jvm.Cond.lays "MixerStation$State" "MixerStation$State" "starts" "I") ∈ UW := uw_t1 140 rfl rfl
theorem mw_142 : (Jvm.Cond.lays "MixerStation$State" "MixerStation$State" "share" "I") ∈ UW := uw_t1 142 rfl rfl
theorem mw_144 : (Jvm.Cond.lays "MixerStation$State" "MixerStation$State" "summer" "Z") ∈ UW := uw_t1 144 rfl rfl
theorem mw_146 : (Jvm.Cond.lays "MixerStation$State" "MixerStation$State" "seasonCounter" "I") ∈ UW := uw_t1 146 rfl rfl
theorem mw_148 : (Jvm.Cond.lays "MixerStation$State" "MixerStation$State" "roomCount" "I") ∈ UW := uw_t1 148 rfl rfl
theorem mw_150 : (Jvm.Cond.laysFinal "MixerStation$State" "MixerStation$State" "settings" "[I") ∈ UW := uw_t1 150 rfl rfl
theorem mw_152 : (Jvm.Cond.laysFinal "MixerStation$State" "MixerStation$State" "heat" "[I") ∈ UW := uw_t1 152 rfl rfl
theorem mw_154 : (Jvm.Cond.laysFinal "MixerStation$State" "MixerStation$State" "capacity" "[I") ∈ UW := uw_t1 154 rfl rfl
theorem mw_156 : (Jvm.Cond.laysFinal "MixerStation$State" "MixerStation$State" "rooms" "[LMixerStation$Room;") ∈ UW := uw_t1 156 rfl rfl
theorem mw_158 : (Jvm.Cond.laysFinal "MixerStation$State" "MixerStation$State" "ledger" "LMixerStation$Ledger;") ∈ UW := uw_t1 158 rfl rfl
theorem mw_161 : (Jvm.Cond.classLink "MixerStation" (23 : Nat) "MixerStation$History") ∈ UW := uw_t1 161 rfl rfl
theorem mw_162 : (Jvm.Cond.instantiable "MixerStation$History" (2 : Nat)) ∈ UW := uw_t1 162 rfl rfl
theorem mw_163 : (Jvm.Cond.methodLink "MixerStation" (25 : Nat) ({ cls := "MixerStation$History", name := "<init>", desc := "()V" } : Jvm.MethodName)) ∈ UW := uw_t1 163 rfl rfl
theorem mw_164 : (Jvm.Cond.instanceMethod ({ cls := "MixerStation$History", name := "<init>", desc := "()V" } : Jvm.MethodName)) ∈ UW := uw_t1 164 rfl rfl
theorem mw_165 : (Jvm.Cond.code ({ cls := "MixerStation$History", name := "<init>", desc := "()V" } : Jvm.MethodName) prog_2_method_1_code (2 : Nat) (Option.none : Option Jvm.ClassFile.FieldType)) ∈ UW := uw_t1 165 rfl rfl
theorem mw_166 : (Jvm.Cond.methodLink "MixerStation$History" (3 : Nat) ({ cls := "java/lang/Object", name := "<init>", desc := "()V" } : Jvm.MethodName)) ∈ UW := uw_t1 166 rfl rfl
theorem mw_167 : (Jvm.Cond.classLink "MixerStation$History" (9 : Nat) "MixerStation$State") ∈ UW := uw_t1 167 rfl rfl
theorem mw_169 : (Jvm.Cond.methodLink "MixerStation$History" (17 : Nat) ({ cls := "MixerStation$State", name := "<init>", desc := "()V" } : Jvm.MethodName)) ∈ UW := uw_t1 169 rfl rfl
theorem mw_170 : (Jvm.Cond.fieldLink "MixerStation$History" (11 : Nat) "MixerStation$History" "states" "[LMixerStation$State;") ∈ UW := uw_t1 170 rfl rfl
theorem mw_171 : (Jvm.Cond.fieldLink "MixerStation$History" (18 : Nat) "MixerStation$History" "count" "I") ∈ UW := uw_t1 171 rfl rfl
theorem mw_172 : (Jvm.Cond.fieldLink "MixerStation" (275 : Nat) "MixerStation$History" "count" "I") ∈ UW := uw_t1 172 rfl rfl
theorem mw_173 : (Jvm.Cond.laysFinal "MixerStation$History" "MixerStation$History" "states" "[LMixerStation$State;") ∈ UW := uw_t1 173 rfl rfl
theorem mw_175 : (Jvm.Cond.lays "MixerStation$History" "MixerStation$History" "count" "I") ∈ UW := uw_t1 175 rfl rfl
theorem mw_178 : (Jvm.Cond.fieldLink "MixerStation" (9 : Nat) "MixerStation" "text" "[C") ∈ UW := uw_t1 178 rfl rfl
theorem mw_179 : (Jvm.Cond.fieldLink "MixerStation" (45 : Nat) "MixerStation" "textLength" "I") ∈ UW := uw_t1 179 rfl rfl
theorem mw_180 : (Jvm.Cond.fieldLink "MixerStation" (16 : Nat) "MixerStation" "state" "LMixerStation$State;") ∈ UW := uw_t1 180 rfl rfl
theorem mw_181 : (Jvm.Cond.fieldLink "MixerStation" (20 : Nat) "MixerStation" "copy" "LMixerStation$State;") ∈ UW := uw_t1 181 rfl rfl
theorem mw_182 : (Jvm.Cond.fieldLink "MixerStation" (26 : Nat) "MixerStation" "history" "LMixerStation$History;") ∈ UW := uw_t1 182 rfl rfl
theorem mw_183 : (Jvm.Cond.fieldLink "MixerStation" (30 : Nat) "MixerStation" "slots" "[LMixerStation$State;") ∈ UW := uw_t1 183 rfl rfl
theorem mw_184 : (Jvm.Cond.fieldLink "MixerStation" (34 : Nat) "MixerStation" "saved" "[Z") ∈ UW := uw_t1 184 rfl rfl
theorem mw_185 : (Jvm.Cond.laysFinal "MixerStation" "MixerStation" "text" "[C") ∈ UW := uw_t1 185 rfl rfl
theorem mw_187 : (Jvm.Cond.lays "MixerStation" "MixerStation" "textLength" "I") ∈ UW := uw_t1 187 rfl rfl
theorem mw_189 : (Jvm.Cond.laysFinal "MixerStation" "MixerStation" "state" "LMixerStation$State;") ∈ UW := uw_t1 189 rfl rfl
theorem mw_191 : (Jvm.Cond.laysFinal "MixerStation" "MixerStation" "copy" "LMixerStation$State;") ∈ UW := uw_t1 191 rfl rfl
theorem mw_193 : (Jvm.Cond.laysFinal "MixerStation" "MixerStation" "history" "LMixerStation$History;") ∈ UW := uw_t1 193 rfl rfl
theorem mw_195 : (Jvm.Cond.laysFinal "MixerStation" "MixerStation" "slots" "[LMixerStation$State;") ∈ UW := uw_t1 195 rfl rfl
theorem mw_197 : (Jvm.Cond.laysFinal "MixerStation" "MixerStation" "saved" "[Z") ∈ UW := uw_t1 197 rfl rfl
theorem mw_200 : (Jvm.Cond.arrayClass Jvm.ClassFile.FieldType.boolean) ∈ UW := uw_t1 200 rfl rfl
theorem mw_201 : (Jvm.Cond.methodLink "MixerStationLaw" (108 : Nat) ({ cls := "MixerStation", name := "clearText", desc := "()I" } : Jvm.MethodName)) ∈ UW := uw_t1 201 rfl rfl
theorem mw_202 : (Jvm.Cond.instanceMethod ({ cls := "MixerStation", name := "clearText", desc := "()I" } : Jvm.MethodName)) ∈ UW := uw_t1 202 rfl rfl
theorem mw_203 : (Jvm.Cond.selects "MixerStation" ({ cls := "MixerStation", name := "clearText", desc := "()I" } : Jvm.MethodName) ({ cls := "MixerStation", name := "clearText", desc := "()I" } : Jvm.MethodName)) ∈ UW := uw_t1 203 rfl rfl
theorem mw_204 : (Jvm.Cond.code ({ cls := "MixerStation", name := "clearText", desc := "()I" } : Jvm.MethodName) prog_1_method_3_code (2 : Nat) (Option.some Jvm.ClassFile.FieldType.int)) ∈ UW := uw_t1 204 rfl rfl
theorem mw_205 : (Jvm.Cond.methodLink "MixerStationLaw" (112 : Nat) ({ cls := "MixerStation", name := "errorPosition", desc := "()I" } : Jvm.MethodName)) ∈ UW := uw_t1 205 rfl rfl
theorem mw_206 : (Jvm.Cond.instanceMethod ({ cls := "MixerStation", name := "errorPosition", desc := "()I" } : Jvm.MethodName)) ∈ UW := uw_t1 206 rfl rfl
theorem mw_207 : (Jvm.Cond.selects "MixerStation" ({ cls := "MixerStation", name := "errorPosition", desc := "()I" } : Jvm.MethodName) ({ cls := "MixerStation", name := "errorPosition", desc := "()I" } : Jvm.MethodName)) ∈ UW := uw_t1 207 rfl rfl
theorem mw_208 : (Jvm.Cond.code ({ cls := "MixerStation", name := "errorPosition", desc := "()I" } : Jvm.MethodName) prog_1_method_4_code (2 : Nat) (Option.some Jvm.ClassFile.FieldType.int)) ∈ UW := uw_t1 208 rfl rfl
theorem mw_209 : (Jvm.Cond.classLink "MixerStation" (54 : Nat) "MixerStation$StationReader") ∈ UW := uw_t1 209 rfl rfl
theorem mw_210 : (Jvm.Cond.instantiable "MixerStation$StationReader" (3 : Nat)) ∈ UW := uw_t1 210 rfl rfl
theorem mw_211 : (Jvm.Cond.methodLink "MixerStation" (56 : Nat) ({ cls := "MixerStation$StationReader", name := "<init>", desc := "([CI)V" } : Jvm.MethodName)) ∈ UW := uw_t1 211 rfl rfl
theorem mw_212 : (Jvm.Cond.instanceMethod ({ cls := "MixerStation$StationReader", name := "<init>", desc := "([CI)V" } : Jvm.MethodName)) ∈ UW := uw_t1 212 rfl rfl
theorem mw_213 : (Jvm.Cond.code ({ cls := "MixerStation$StationReader", name := "<init>", desc := "([CI)V" } : Jvm.MethodName) prog_6_method_1_code (3 : Nat) (Option.none : Option Jvm.ClassFile.FieldType)) ∈ UW := uw_t1 213 rfl rfl
theorem mw_214 : (Jvm.Cond.methodLink "MixerStation$StationReader" (3 : Nat) ({ cls := "java/lang/Object", name := "<init>", desc := "()V" } : Jvm.MethodName)) ∈ UW := uw_t1 214 rfl rfl
theorem mw_215 : (Jvm.Cond.fieldLink "MixerStation$StationReader" (9 : Nat) "MixerStation$StationReader" "text" "[C") ∈ UW := uw_t1 215 rfl rfl
theorem mw_216 : (Jvm.Cond.fieldLink "MixerStation$StationReader" (15 : Nat) "MixerStation$StationReader" "length" "I") ∈ UW := uw_t1 216 rfl rfl
theorem mw_217 : (Jvm.Cond.fieldLink "MixerStation$StationReader" (28 : Nat) "MixerStation$StationReader" "position" "I") ∈ UW := uw_t1 217 rfl rfl
theorem mw_218 : (Jvm.Cond.fieldLink "MixerStation" (64 : Nat) "MixerStation$StationReader" "position" "I") ∈ UW := uw_t1 218 rfl rfl
theorem mw_219 : (Jvm.Cond.laysFinal "MixerStation$StationReader" "MixerStation$StationReader" "text" "[C") ∈ UW := uw_t1 219 rfl rfl
theorem mw_221 : (Jvm.Cond.laysFinal "MixerStation$StationReader" "MixerStation$StationReader" "length" "I") ∈ UW := uw_t1 221 rfl rfl
theorem mw_223 : (Jvm.Cond.lays "MixerStation$StationReader" "MixerStation$StationReader" "position" "I") ∈ UW := uw_t1 223 rfl rfl
theorem mw_226 : (Jvm.Cond.methodLink "MixerStation" (59 : Nat) ({ cls := "MixerStation$StationReader", name := "readInto", desc := "(LMixerStation$State;)Z" } : Jvm.MethodName)) ∈ UW := uw_t1 226 rfl rfl
theorem mw_227 : (Jvm.Cond.instanceMethod ({ cls := "MixerStation$StationReader", name := "readInto", desc := "(LMixerStation$State;)Z" } : Jvm.MethodName)) ∈ UW := uw_t1 227 rfl rfl
theorem mw_228 : (Jvm.Cond.selects "MixerStation$StationReader" ({ cls := "MixerStation$StationReader", name := "readInto", desc := "(LMixerStation$State;)Z" } : Jvm.MethodName) ({ cls := "MixerStation$StationReader", name := "readInto", desc := "(LMixerStation$State;)Z" } : Jvm.MethodName)) ∈ UW := uw_t1 228 rfl rfl
theorem mw_229 : (Jvm.Cond.code ({ cls := "MixerStation$StationReader", name := "readInto", desc := "(LMixerStation$State;)Z" } : Jvm.MethodName) prog_6_method_2_code (3 : Nat) (Option.some Jvm.ClassFile.FieldType.boolean)) ∈ UW := uw_t1 229 rfl rfl
theorem mw_230 : (Jvm.Cond.methodLink "MixerStation$StationReader" (19 : Nat) ({ cls := "MixerStation$State", name := "beginAnew", desc := "()V" } : Jvm.MethodName)) ∈ UW := uw_t1 230 rfl rfl
theorem mw_231 : (Jvm.Cond.methodLink "MixerStation$StationReader" (24 : Nat) ({ cls := "MixerStation$StationReader", name := "readHead", desc := "(LMixerStation$State;)Z" } : Jvm.MethodName)) ∈ UW := uw_t1 231 rfl rfl
theorem mw_233 : (Jvm.Cond.instanceMethod ({ cls := "MixerStation$StationReader", name := "readHead", desc := "(LMixerStation$State;)Z" } : Jvm.MethodName)) ∈ UW := uw_t1 233 rfl rfl
theorem mw_234 : (Jvm.Cond.code ({ cls := "MixerStation$StationReader", name := "readHead", desc := "(LMixerStation$State;)Z" } : Jvm.MethodName) prog_6_method_3_code (2 : Nat) (Option.some Jvm.ClassFile.FieldType.boolean)) ∈ UW := uw_t1 234 rfl rfl
theorem mw_235 : (Jvm.Cond.methodLink "MixerStation$StationReader" (34 : Nat) ({ cls := "MixerStation$StationReader", name := "here", desc := "()I" } : Jvm.MethodName)) ∈ UW := uw_t1 235 rfl rfl
theorem mw_237 : (Jvm.Cond.instanceMethod ({ cls := "MixerStation$StationReader", name := "here", desc := "()I" } : Jvm.MethodName)) ∈ UW := uw_t1 237 rfl rfl
theorem mw_238 : (Jvm.Cond.code ({ cls := "MixerStation$StationReader", name := "here", desc := "()I" } : Jvm.MethodName) prog_6_method_9_code (1 : Nat) (Option.some Jvm.ClassFile.FieldType.int)) ∈ UW := uw_t1 238 rfl rfl
theorem mw_239 : (Jvm.Cond.methodLink "MixerStation$StationReader" (38 : Nat) ({ cls := "MixerStation$StationReader", name := "readSetting", desc := "(LMixerStation$State;II)Z" } : Jvm.MethodName)) ∈ UW := uw_t1 239 rfl rfl
theorem mw_241 : (Jvm.Cond.instanceMethod ({ cls := "MixerStation$StationReader", name := "readSetting", desc := "(LMixerStation$State;II)Z" } : Jvm.MethodName)) ∈ UW := uw_t2 1 rfl rfl
theorem mw_242 : (Jvm.Cond.code ({ cls := "MixerStation$StationReader", name := "readSetting", desc := "(LMixerStation$State;II)Z" } : Jvm.MethodName) prog_6_method_5_code (5 : Nat) (Option.some Jvm.ClassFile.FieldType.boolean)) ∈ UW := uw_t2 2 rfl rfl
theorem mw_244 : (Jvm.Cond.static ({ cls := "MixerStation", name := "lowestSetting", desc := "(I)I" } : Jvm.MethodName)) ∈ UW := uw_t2 4 rfl rfl
theorem mw_245 : (Jvm.Cond.code ({ cls := "MixerStation", name := "lowestSetting", desc := "(I)I" } : Jvm.MethodName) prog_1_method_30_code (1 : Nat) (Option.some Jvm.ClassFile.FieldType.int)) ∈ UW := uw_t2 5 rfl rfl
theorem mw_246 : (Jvm.Cond.fieldLink "MixerStation" (342 : Nat) "MixerStation" "LOWEST_SETTINGS" "[I") ∈ UW := uw_t2 6 rfl rfl
theorem mw_249 : (Jvm.Cond.static ({ cls := "MixerStation", name := "highestSetting", desc := "(I)I" } : Jvm.MethodName)) ∈ UW := uw_t2 9 rfl rfl
theorem mw_250 : (Jvm.Cond.code ({ cls := "MixerStation", name := "highestSetting", desc := "(I)I" } : Jvm.MethodName) prog_1_method_31_code (1 : Nat) (Option.some Jvm.ClassFile.FieldType.int)) ∈ UW := uw_t2 10 rfl rfl
theorem mw_251 : (Jvm.Cond.fieldLink "MixerStation" (345 : Nat) "MixerStation" "HIGHEST_SETTINGS" "[I") ∈ UW := uw_t2 11 rfl rfl
theorem mw_253 : (Jvm.Cond.methodLink "MixerStation$StationReader" (52 : Nat) ({ cls := "MixerStation$StationReader", name := "readNumber", desc := "(III)I" } : Jvm.MethodName)) ∈ UW := uw_t2 13 rfl rfl
theorem mw_255 : (Jvm.Cond.instanceMethod ({ cls := "MixerStation$StationReader", name := "readNumber", desc := "(III)I" } : Jvm.MethodName)) ∈ UW := uw_t2 15 rfl rfl
theorem mw_256 : (Jvm.Cond.code ({ cls := "MixerStation$StationReader", name := "readNumber", desc := "(III)I" } : Jvm.MethodName) prog_6_method_8_code (9 : Nat) (Option.some Jvm.ClassFile.FieldType.int)) ∈ UW := uw_t2 16 rfl rfl
theorem mw_257 : (Jvm.Cond.methodLink "MixerStation$StationReader" (63 : Nat) ({ cls := "MixerStation$State", name := "changeSetting", desc := "(II)V" } : Jvm.MethodName)) ∈ UW := uw_t2 17 rfl rfl
theorem mw_258 : (Jvm.Cond.instanceMethod ({ cls := "MixerStation$State", name := "changeSetting", desc := "(II)V" } : Jvm.MethodName)) ∈ UW := uw_t2 18 rfl rfl
theorem mw_259 : (Jvm.Cond.selects "MixerStation$State" ({ cls := "MixerStation$State", name := "changeSetting", desc := "(II)V" } : Jvm.MethodName) ({ cls := "MixerStation$State", name := "changeSetting", desc := "(II)V" } : Jvm.MethodName)) ∈ UW := uw_t2 19 rfl rfl
theorem mw_260 : (Jvm.Cond.code ({ cls := "MixerStation$State", name := "changeSetting", desc := "(II)V" } : Jvm.MethodName) prog_5_method_8_code (3 : Nat) (Option.none : Option Jvm.ClassFile.FieldType)) ∈ UW := uw_t2 20 rfl rfl
theorem mw_261 : (Jvm.Cond.methodLink "MixerStation$StationReader" (31 : Nat) ({ cls := "MixerStation$StationReader", name := "readPart", desc := "(LMixerStation$State;)Z" } : Jvm.MethodName)) ∈ UW := uw_t2 21 rfl rfl
theorem mw_263 : (Jvm.Cond.instanceMethod ({ cls := "MixerStation$StationReader", name := "readPart", desc := "(LMixerStation$State;)Z" } : Jvm.MethodName)) ∈ UW := uw_t2 23 rfl rfl
theorem mw_264 : (Jvm.Cond.code ({ cls := "MixerStation$StationReader", name := "readPart", desc := "(LMixerStation$State;)Z" } : Jvm.MethodName) prog_6_method_4_code (4 : Nat) (Option.some Jvm.ClassFile.FieldType.boolean)) ∈ UW := uw_t2 24 rfl rfl
theorem mw_265 : (Jvm.Cond.methodLink "MixerStation$StationReader" (42 : Nat) ({ cls := "MixerStation$State", name := "isFull", desc := "()Z" } : Jvm.MethodName)) ∈ UW := uw_t2 25 rfl rfl
theorem mw_266 : (Jvm.Cond.instanceMethod ({ cls := "MixerStation$State", name := "isFull", desc := "()Z" } : Jvm.MethodName)) ∈ UW := uw_t2 26 rfl rfl
theorem mw_267 : (Jvm.Cond.selects "MixerStation$State" ({ cls := "MixerStation$State", name := "isFull", desc := "()Z" } : Jvm.MethodName) ({ cls := "MixerStation$State", name := "isFull", desc := "()Z" } : Jvm.MethodName)) ∈ UW := uw_t2 27 rfl rfl
theorem mw_268 : (Jvm.Cond.code ({ cls := "MixerStation$State", name := "isFull", desc := "()Z" } : Jvm.MethodName) prog_5_method_6_code (1 : Nat) (Option.some Jvm.ClassFile.FieldType.boolean)) ∈ UW := uw_t2 28 rfl rfl
theorem mw_269 : (Jvm.Cond.methodLink "MixerStation$StationReader" (46 : Nat) ({ cls := "MixerStation$StationReader", name := "readRoom", desc := "(LMixerStation$State;)Z" } : Jvm.MethodName)) ∈ UW := uw_t2 29 rfl rfl
theorem mw_271 : (Jvm.Cond.instanceMethod ({ cls := "MixerStation$StationReader", name := "readRoom", desc := "(LMixerStation$State;)Z" } : Jvm.MethodName)) ∈ UW := uw_t2 31 rfl rfl
theorem mw_272 : (Jvm.Cond.code ({ cls := "MixerStation$StationReader", name := "readRoom", desc := "(LMixerStation$State;)Z" } : Jvm.MethodName) prog_6_method_6_code (6 : Nat) (Option.some Jvm.ClassFile.FieldType.boolean)) ∈ UW := uw_t2 32 rfl rfl
theorem mw_273 : (Jvm.Cond.methodLink "MixerStation$StationReader" (67 : Nat) ({ cls := "MixerStation$State", name := "buildRoom", desc := "(IIII)V" } : Jvm.MethodName)) ∈ UW := uw_t2 33 rfl rfl
theorem mw_274 : (Jvm.Cond.instanceMethod ({ cls := "MixerStation$State", name := "buildRoom", desc := "(IIII)V" } : Jvm.MethodName)) ∈ UW := uw_t2 34 rfl rfl
theorem mw_275 : (Jvm.Cond.selects "MixerStation$State" ({ cls := "MixerStation$State", name := "buildRoom", desc := "(IIII)V" } : Jvm.MethodName) ({ cls := "MixerStation$State", name := "buildRoom", desc := "(IIII)V" } : Jvm.MethodName)) ∈ UW := uw_t2 35 rfl rfl
theorem mw_276 : (Jvm.Cond.code ({ cls := "MixerStation$State", name := "buildRoom", desc := "(IIII)V" } : Jvm.MethodName) prog_5_method_10_code (7 : Nat) (Option.none : Option Jvm.ClassFile.FieldType)) ∈ UW := uw_t2 36 rfl rfl
theorem mw_277 : (Jvm.Cond.methodLink "MixerStation$State" (93 : Nat) ({ cls := "MixerStation$Room", name := "begin", desc := "(III)V" } : Jvm.MethodName)) ∈ UW := uw_t2 37 rfl rfl
theorem mw_278 : (Jvm.Cond.instanceMethod ({ cls := "MixerStation$Room", name := "begin", desc := "(III)V" } : Jvm.MethodName)) ∈ UW := uw_t2 38 rfl rfl
theorem mw_279 : (Jvm.Cond.selects "MixerStation$Room" ({ cls := "MixerStation$Room", name := "begin", desc := "(III)V" } : Jvm.MethodName) ({ cls := "MixerStation$Room", name := "begin", desc := "(III)V" } : Jvm.MethodName)) ∈ UW := uw_t2 39 rfl rfl
theorem mw_280 : (Jvm.Cond.code ({ cls := "MixerStation$Room", name := "begin", desc := "(III)V" } : Jvm.MethodName) prog_4_method_3_code (4 : Nat) (Option.none : Option Jvm.ClassFile.FieldType)) ∈ UW := uw_t2 40 rfl rfl
theorem mw_281 : (Jvm.Cond.methodLink "MixerStation$State" (97 : Nat) ({ cls := "MixerStation$State", name := "move", desc := "(III)V" } : Jvm.MethodName)) ∈ UW := uw_t2 41 rfl rfl
theorem mw_283 : (Jvm.Cond.instanceMethod ({ cls := "MixerStation$State", name := "move", desc := "(III)V" } : Jvm.MethodName)) ∈ UW := uw_t2 43 rfl rfl
theorem mw_284 : (Jvm.Cond.code ({ cls := "MixerStation$State", name := "move", desc := "(III)V" } : Jvm.MethodName) prog_5_method_33_code (4 : Nat) (Option.none : Option Jvm.ClassFile.FieldType)) ∈ UW := uw_t2 44 rfl rfl
theorem mw_285 : (Jvm.Cond.methodLink "MixerStation$State" (179 : Nat) ({ cls := "MixerStation$State", name := "addHeat", desc := "(II)V" } : Jvm.MethodName)) ∈ UW := uw_t2 45 rfl rfl
theorem mw_287 : (Jvm.Cond.instanceMethod ({ cls := "MixerStation$State", name := "addHeat", desc := "(II)V" } : Jvm.MethodName)) ∈ UW := uw_t2 47 rfl rfl
theorem mw_288 : (Jvm.Cond.code ({ cls := "MixerStation$State", name := "addHeat", desc := "(II)V" } : Jvm.MethodName) prog_5_method_34_code (3 : Nat) (Option.none : Option Jvm.ClassFile.FieldType)) ∈ UW := uw_t2 48 rfl rfl
theorem mw_289 : (Jvm.Cond.methodLink "MixerStation$State" (183 : Nat) ({ cls := "MixerStation$Ledger", name := "note", desc := "(III)V" } : Jvm.MethodName)) ∈ UW := uw_t2 49 rfl rfl
theorem mw_290 : (Jvm.Cond.instanceMethod ({ cls := "MixerStation$Ledger", name := "note", desc := "(III)V" } : Jvm.MethodName)) ∈ UW := uw_t2 50 rfl rfl
theorem mw_291 : (Jvm.Cond.selects "MixerStation$Ledger" ({ cls := "MixerStation$Ledger", name := "note", desc := "(III)V" } : Jvm.MethodName) ({ cls := "MixerStation$Ledger", name := "note", desc := "(III)V" } : Jvm.MethodName)) ∈ UW := uw_t2 51 rfl rfl
theorem mw_292 : (Jvm.Cond.code ({ cls := "MixerStation$Ledger", name := "note", desc := "(III)V" } : Jvm.MethodName) prog_3_method_4_code (5 : Nat) (Option.none : Option Jvm.ClassFile.FieldType)) ∈ UW := uw_t2 52 rfl rfl
theorem mw_293 : (Jvm.Cond.methodLink "MixerStation$StationReader" (49 : Nat) ({ cls := "MixerStation$StationReader", name := "readOutside", desc := "(LMixerStation$State;)Z" } : Jvm.MethodName)) ∈ UW := uw_t2 53 rfl rfl
theorem mw_295 : (Jvm.Cond.instanceMethod ({ cls := "MixerStation$StationReader", name := "readOutside", desc := "(LMixerStation$State;)Z" } : Jvm.MethodName)) ∈ UW := uw_t2 55 rfl rfl
theorem mw_296 : (Jvm.Cond.code ({ cls := "MixerStation$StationReader", name := "readOutside", desc := "(LMixerStation$State;)Z" } : Jvm.MethodName) prog_6_method_7_code (4 : Nat) (Option.some Jvm.ClassFile.FieldType.boolean)) ∈ UW := uw_t2 56 rfl rfl
theorem mw_297 : (Jvm.Cond.constant "MixerStation" (63 : Nat) (-99999 : Int32)) ∈ UW := uw_t2 57 rfl rfl
theorem mw_298 : (Jvm.Cond.methodLink "MixerStationLaw" (169 : Nat) ({ cls := "MixerStation", name := "whyOff", desc := "()I" } : Jvm.MethodName)) ∈ UW := uw_t2 58 rfl rfl
theorem mw_299 : (Jvm.Cond.instanceMethod ({ cls := "MixerStation", name := "whyOff", desc := "()I" } : Jvm.MethodName)) ∈ UW := uw_t2 59 rfl rfl
theorem mw_300 : (Jvm.Cond.selects "MixerStation" ({ cls := "MixerStation", name := "whyOff", desc := "()I" } : Jvm.MethodName) ({ cls := "MixerStation", name := "whyOff", desc := "()I" } : Jvm.MethodName)) ∈ UW := uw_t2 60 rfl rfl
theorem mw_301 : (Jvm.Cond.code ({ cls := "MixerStation", name := "whyOff", desc := "()I" } : Jvm.MethodName) prog_1_method_21_code (1 : Nat) (Option.some Jvm.ClassFile.FieldType.int)) ∈ UW := uw_t2 61 rfl rfl
theorem mw_302 : (Jvm.Cond.methodLink "MixerStation" (69 : Nat) ({ cls := "MixerStation$State", name := "copyFrom", desc := "(LMixerStation$State;)V" } : Jvm.MethodName)) ∈ UW := uw_t2 62 rfl rfl
theorem mw_303 : (Jvm.Cond.instanceMethod ({ cls := "MixerStation$State", name := "copyFrom", desc := "(LMixerStation$State;)V" } : Jvm.MethodName)) ∈ UW := uw_t2 63 rfl rfl
theorem mw_304 : (Jvm.Cond.selects "MixerStation$State" ({ cls := "MixerStation$State", name := "copyFrom", desc := "(LMixerStation$State;)V" } : Jvm.MethodName) ({ cls := "MixerStation$State", name := "copyFrom", desc := "(LMixerStation$State;)V" } : Jvm.MethodName)) ∈ UW := uw_t2 64 rfl rfl
theorem mw_305 : (Jvm.Cond.code ({ cls := "MixerStation$State", name := "copyFrom", desc := "(LMixerStation$State;)V" } : Jvm.MethodName) prog_5_method_3_code (3 : Nat) (Option.none : Option Jvm.ClassFile.FieldType)) ∈ UW := uw_t2 65 rfl rfl
theorem mw_306 : (Jvm.Cond.methodLink "MixerStation$State" (79 : Nat) ({ cls := "MixerStation$Ledger", name := "copyFrom", desc := "(LMixerStation$Ledger;)V" } : Jvm.MethodName)) ∈ UW := uw_t2 66 rfl rfl
theorem mw_307 : (Jvm.Cond.instanceMethod ({ cls := "MixerStation$Ledger", name := "copyFrom", desc := "(LMixerStation$Ledger;)V" } : Jvm.MethodName)) ∈ UW := uw_t2 67 rfl rfl
theorem mw_308 : (Jvm.Cond.selects "MixerStation$Ledger" ({ cls := "MixerStation$Ledger", name := "copyFrom", desc := "(LMixerStation$Ledger;)V" } : Jvm.MethodName) ({ cls := "MixerStation$Ledger", name := "copyFrom", desc := "(LMixerStation$Ledger;)V" } : Jvm.MethodName)) ∈ UW := uw_t2 68 rfl rfl
theorem mw_309 : (Jvm.Cond.code ({ cls := "MixerStation$Ledger", name := "copyFrom", desc := "(LMixerStation$Ledger;)V" } : Jvm.MethodName) prog_3_method_2_code (2 : Nat) (Option.none : Option Jvm.ClassFile.FieldType)) ∈ UW := uw_t2 69 rfl rfl
theorem mw_310 : (Jvm.Cond.methodLink "MixerStation$Ledger" (21 : Nat) ({ cls := "java/lang/System", name := "arraycopy", desc := "(Ljava/lang/Object;ILjava/lang/Object;II)V" } : Jvm.MethodName)) ∈ UW := uw_t2 70 rfl rfl
theorem mw_311 : (Jvm.Cond.methodLink "MixerStation$State" (83 : Nat) ({ cls := "MixerStation$Room", name := "copyFrom", desc := "(LMixerStation$Room;)V" } : Jvm.MethodName)) ∈ UW := uw_t2 71 rfl rfl
theorem mw_312 : (Jvm.Cond.instanceMethod ({ cls := "MixerStation$Room", name := "copyFrom", desc := "(LMixerStation$Room;)V" } : Jvm.MethodName)) ∈ UW := uw_t2 72 rfl rfl
theorem mw_313 : (Jvm.Cond.selects "MixerStation$Room" ({ cls := "MixerStation$Room", name := "copyFrom", desc := "(LMixerStation$Room;)V" } : Jvm.MethodName) ({ cls := "MixerStation$Room", name := "copyFrom", desc := "(LMixerStation$Room;)V" } : Jvm.MethodName)) ∈ UW := uw_t2 73 rfl rfl
theorem mw_314 : (Jvm.Cond.code ({ cls := "MixerStation$Room", name := "copyFrom", desc := "(LMixerStation$Room;)V" } : Jvm.MethodName) prog_4_method_2_code (2 : Nat) (Option.none : Option Jvm.ClassFile.FieldType)) ∈ UW := uw_t2 74 rfl rfl
theorem mw_315 : (Jvm.Cond.methodLink "MixerStation" (281 : Nat) ({ cls := "MixerStation$State", name := "turnSeason", desc := "()V" } : Jvm.MethodName)) ∈ UW := uw_t2 75 rfl rfl
theorem mw_316 : (Jvm.Cond.instanceMethod ({ cls := "MixerStation$State", name := "turnSeason", desc := "()V" } : Jvm.MethodName)) ∈ UW := uw_t2 76 rfl rfl
theorem mw_317 : (Jvm.Cond.selects "MixerStation$State" ({ cls := "MixerStation$State", name := "turnSeason", desc := "()V" } : Jvm.MethodName) ({ cls := "MixerStation$State", name := "turnSeason", desc := "()V" } : Jvm.MethodName)) ∈ UW := uw_t2 77 rfl rfl
theorem mw_318 : (Jvm.Cond.code ({ cls := "MixerStation$State", name := "turnSeason", desc := "()V" } : Jvm.MethodName) prog_5_method_22_code (2 : Nat) (Option.none : Option Jvm.ClassFile.FieldType)) ∈ UW := uw_t2 78 rfl rfl
theorem mw_319 : (Jvm.Cond.methodLink "MixerStation$State" (122 : Nat) ({ cls := "MixerStation$State", name := "settingOf", desc := "(I)I" } : Jvm.MethodName)) ∈ UW := uw_t2 79 rfl rfl
theorem mw_320 : (Jvm.Cond.instanceMethod ({ cls := "MixerStation$State", name := "settingOf", desc := "(I)I" } : Jvm.MethodName)) ∈ UW := uw_t2 80 rfl rfl
theorem mw_321 : (Jvm.Cond.selects "MixerStation$State" ({ cls := "MixerStation$State", name := "settingOf", desc := "(I)I" } : Jvm.MethodName) ({ cls := "MixerStation$State", name := "settingOf", desc := "(I)I" } : Jvm.MethodName)) ∈ UW := uw_t2 81 rfl rfl
theorem mw_322 : (Jvm.Cond.code ({ cls := "MixerStation$State", name := "settingOf", desc := "(I)I" } : Jvm.MethodName) prog_5_method_7_code (2 : Nat) (Option.some Jvm.ClassFile.FieldType.int)) ∈ UW := uw_t2 82 rfl rfl
theorem mw_323 : (Jvm.Cond.methodLink "MixerStation" (284 : Nat) ({ cls := "MixerStation$State", name := "runBoiler", desc := "()V" } : Jvm.MethodName)) ∈ UW := uw_t2 83 rfl rfl
theorem mw_324 : (Jvm.Cond.instanceMethod ({ cls := "MixerStation$State", name := "runBoiler", desc := "()V" } : Jvm.MethodName)) ∈ UW := uw_t2 84 rfl rfl
theorem mw_325 : (Jvm.Cond.selects "MixerStation$State" ({ cls := "MixerStation$State", name := "runBoiler", desc := "()V" } : Jvm.MethodName) ({ cls := "MixerStation$State", name := "runBoiler", desc := "()V" } : Jvm.MethodName)) ∈ UW := uw_t2 85 rfl rfl
theorem mw_326 : (Jvm.Cond.code ({ cls := "MixerStation$State", name := "runBoiler", desc := "()V" } : Jvm.MethodName) prog_5_method_23_code (1 : Nat) (Option.none : Option Jvm.ClassFile.FieldType)) ∈ UW := uw_t2 86 rfl rfl
theorem mw_327 : (Jvm.Cond.methodLink "MixerStation$State" (149 : Nat) ({ cls := "MixerStation$State", name := "mustStop", desc := "()Z" } : Jvm.MethodName)) ∈ UW := uw_t2 87 rfl rfl
theorem mw_329 : (Jvm.Cond.instanceMethod ({ cls := "MixerStation$State", name := "mustStop", desc := "()Z" } : Jvm.MethodName)) ∈ UW := uw_t2 89 rfl rfl
theorem mw_330 : (Jvm.Cond.code ({ cls := "MixerStation$State", name := "mustStop", desc := "()Z" } : Jvm.MethodName) prog_5_method_24_code (2 : Nat) (Option.some Jvm.ClassFile.FieldType.boolean)) ∈ UW := uw_t2 90 rfl rfl
theorem mw_331 : (Jvm.Cond.methodLink "MixerStation$State" (112 : Nat) ({ cls := "MixerStation$State", name := "degrees", desc := "(I)I" } : Jvm.MethodName)) ∈ UW := uw_t2 91 rfl rfl
theorem mw_332 : (Jvm.Cond.instanceMethod ({ cls := "MixerStation$State", name := "degrees", desc := "(I)I" } : Jvm.MethodName)) ∈ UW := uw_t2 92 rfl rfl
theorem mw_333 : (Jvm.Cond.selects "MixerStation$State" ({ cls := "MixerStation$State", name := "degrees", desc := "(I)I" } : Jvm.MethodName) ({ cls := "MixerStation$State", name := "degrees", desc := "(I)I" } : Jvm.MethodName)) ∈ UW := uw_t2 93 rfl rfl
theorem mw_334 : (Jvm.Cond.code ({ cls := "MixerStation$State", name := "degrees", desc := "(I)I" } : Jvm.MethodName) prog_5_method_13_code (2 : Nat) (Option.some Jvm.ClassFile.FieldType.int)) ∈ UW := uw_t2 94 rfl rfl
theorem mw_335 : (Jvm.Cond.methodLink "MixerStation$State" (100 : Nat) ({ cls := "java/lang/Math", name := "floorDiv", desc := "(II)I" } : Jvm.MethodName)) ∈ UW := uw_t2 95 rfl rfl
theorem mw_336 : (Jvm.Cond.static ({ cls := "java/lang/Math", name := "floorDiv", desc := "(II)I" } : Jvm.MethodName)) ∈ UW := uw_t2 96 rfl rfl
theorem mw_337 : (Jvm.Cond.code ({ cls := "java/lang/Math", name := "floorDiv", desc := "(II)I" } : Jvm.MethodName) prog_13_method_47_code (3 : Nat) (Option.some Jvm.ClassFile.FieldType.int)) ∈ UW := uw_t2 97 rfl rfl
theorem mw_338 : (Jvm.Cond.methodLink "MixerStation$State" (153 : Nat) ({ cls := "MixerStation$State", name := "mayStart", desc := "()Z" } : Jvm.MethodName)) ∈ UW := uw_t2 98 rfl rfl
theorem mw_340 : (Jvm.Cond.instanceMethod ({ cls := "MixerStation$State", name := "mayStart", desc := "()Z" } : Jvm.MethodName)) ∈ UW := uw_t2 100 rfl rfl
theorem mw_341 : (Jvm.Cond.code ({ cls := "MixerStation$State", name := "mayStart", desc := "()Z" } : Jvm.MethodName) prog_5_method_25_code (1 : Nat) (Option.some Jvm.ClassFile.FieldType.boolean)) ∈ UW := uw_t2 101 rfl rfl
theorem mw_342 : (Jvm.Cond.methodLink "MixerStation" (143 : Nat) ({ cls := "MixerStation$State", name := "degrees", desc := "(I)I" } : Jvm.MethodName)) ∈ UW := uw_t2 102 rfl rfl
theorem mw_343 : (Jvm.Cond.methodLink "MixerStation" (127 : Nat) ({ cls := "MixerStation$State", name := "settingOf", desc := "(I)I" } : Jvm.MethodName)) ∈ UW := uw_t2 103 rfl rfl
theorem mw_344 : (Jvm.Cond.methodLink "MixerStationLaw" (173 : Nat) ({ cls := "MixerStation", name := "whyShare", desc := "()I" } : Jvm.MethodName)) ∈ UW := uw_t2 104 rfl rfl
theorem mw_345 : (Jvm.Cond.instanceMethod ({ cls := "MixerStation", name := "whyShare", desc := "()I" } : Jvm.MethodName)) ∈ UW := uw_t2 105 rfl rfl
theorem mw_346 : (Jvm.Cond.selects "MixerStation" ({ cls := "MixerStation", name := "whyShare", desc := "()I" } : Jvm.MethodName) ({ cls := "MixerStation", name := "whyShare", desc := "()I" } : Jvm.MethodName)) ∈ UW := uw_t2 106 rfl rfl
theorem mw_347 : (Jvm.Cond.code ({ cls := "MixerStation", name := "whyShare", desc := "()I" } : Jvm.MethodName) prog_1_method_22_code (1 : Nat) (Option.some Jvm.ClassFile.FieldType.int)) ∈ UW := uw_t2 107 rfl rfl
theorem mw_348 : (Jvm.Cond.methodLink "MixerStation" (287 : Nat) ({ cls := "MixerStation$State", name := "moveValve", desc := "()V" } : Jvm.MethodName)) ∈ UW := uw_t2 108 rfl rfl
theorem mw_349 : (Jvm.Cond.instanceMethod ({ cls := "MixerStation$State", name := "moveValve", desc := "()V" } : Jvm.MethodName)) ∈ UW := uw_t2 109 rfl rfl
theorem mw_350 : (Jvm.Cond.selects "MixerStation$State" ({ cls := "MixerStation$State", name := "moveValve", desc := "()V" } : Jvm.MethodName) ({ cls := "MixerStation$State", name := "moveValve", desc := "()V" } : Jvm.MethodName)) ∈ UW := uw_t2 110 rfl rfl
theorem mw_351 : (Jvm.Cond.code ({ cls := "MixerStation$State", name := "moveValve", desc := "()V" } : Jvm.MethodName) prog_5_method_26_code (3 : Nat) (Option.none : Option Jvm.ClassFile.FieldType)) ∈ UW := uw_t2 111 rfl rfl
theorem mw_352 : (Jvm.Cond.methodLink "MixerStation$State" (156 : Nat) ({ cls := "MixerStation$State", name := "freeTarget", desc := "()I" } : Jvm.MethodName)) ∈ UW := uw_t2 112 rfl rfl
theorem mw_353 : (Jvm.Cond.instanceMethod ({ cls := "MixerStation$State", name := "freeTarget", desc := "()I" } : Jvm.MethodName)) ∈ UW := uw_t2 113 rfl rfl
theorem mw_354 : (Jvm.Cond.selects "MixerStation$State" ({ cls := "MixerStation$State", name := "freeTarget", desc := "()I" } : Jvm.MethodName) ({ cls := "MixerStation$State", name := "freeTarget", desc := "()I" } : Jvm.MethodName)) ∈ UW := uw_t2 114 rfl rfl
theorem mw_355 : (Jvm.Cond.code ({ cls := "MixerStation$State", name := "freeTarget", desc := "()I" } : Jvm.MethodName) prog_5_method_28_code (2 : Nat) (Option.some Jvm.ClassFile.FieldType.int)) ∈ UW := uw_t2 115 rfl rfl
theorem mw_356 : (Jvm.Cond.methodLink "MixerStation$State" (166 : Nat) ({ cls := "MixerStation$State", name := "loopShouldHave", desc := "()I" } : Jvm.MethodName)) ∈ UW := uw_t2 116 rfl rfl
theorem mw_357 : (Jvm.Cond.instanceMethod ({ cls := "MixerStation$State", name := "loopShouldHave", desc := "()I" } : Jvm.MethodName)) ∈ UW := uw_t2 117 rfl rfl
theorem mw_358 : (Jvm.Cond.selects "MixerStation$State" ({ cls := "MixerStation$State", name := "loopShouldHave", desc := "()I" } : Jvm.MethodName) ({ cls := "MixerStation$State", name := "loopShouldHave", desc := "()I" } : Jvm.MethodName)) ∈ UW := uw_t2 118 rfl rfl
theorem mw_359 : (Jvm.Cond.code ({ cls := "MixerStation$State", name := "loopShouldHave", desc := "()I" } : Jvm.MethodName) prog_5_method_20_code (1 : Nat) (Option.some Jvm.ClassFile.FieldType.int)) ∈ UW := uw_t2 119 rfl rfl
theorem mw_360 : (Jvm.Cond.methodLink "MixerStation$State" (125 : Nat) ({ cls := "java/lang/Math", name := "min", desc := "(II)I" } : Jvm.MethodName)) ∈ UW := uw_t2 120 rfl rfl
theorem mw_361 : (Jvm.Cond.static ({ cls := "java/lang/Math", name := "min", desc := "(II)I" } : Jvm.MethodName)) ∈ UW := uw_t2 121 rfl rfl
theorem mw_362 : (Jvm.Cond.code ({ cls := "java/lang/Math", name := "min", desc := "(II)I" } : Jvm.MethodName) prog_13_method_69_code (2 : Nat) (Option.some Jvm.ClassFile.FieldType.int)) ∈ UW := uw_t2 122 rfl rfl
theorem mw_363 : (Jvm.Cond.methodLink "MixerStation$State" (163 : Nat) ({ cls := "java/lang/Math", name := "max", desc := "(II)I" } : Jvm.MethodName)) ∈ UW := uw_t2 123 rfl rfl
theorem mw_364 : (Jvm.Cond.static ({ cls := "java/lang/Math", name := "max", desc := "(II)I" } : Jvm.MethodName)) ∈ UW := uw_t2 124 rfl rfl
theorem mw_365 : (Jvm.Cond.code ({ cls := "java/lang/Math", name := "max", desc := "(II)I" } : Jvm.MethodName) prog_13_method_65_code (2 : Nat) (Option.some Jvm.ClassFile.FieldType.int)) ∈ UW := uw_t2 125 rfl rfl
theorem mw_366 : (Jvm.Cond.methodLink "MixerStation$State" (160 : Nat) ({ cls := "MixerStation$State", name := "isPinched", desc := "()Z" } : Jvm.MethodName)) ∈ UW := uw_t2 126 rfl rfl
theorem mw_367 : (Jvm.Cond.instanceMethod ({ cls := "MixerStation$State", name := "isPinched", desc := "()Z" } : Jvm.MethodName)) ∈ UW := uw_t2 127 rfl rfl
theorem mw_368 : (Jvm.Cond.selects "MixerStation$State" ({ cls := "MixerStation$State", name := "isPinched", desc := "()Z" } : Jvm.MethodName) ({ cls := "MixerStation$State", name := "isPinched", desc := "()Z" } : Jvm.MethodName)) ∈ UW := uw_t2 128 rfl rfl
theorem mw_369 : (Jvm.Cond.code ({ cls := "MixerStation$State", name := "isPinched", desc := "()Z" } : Jvm.MethodName) prog_5_method_27_code (1 : Nat) (Option.some Jvm.ClassFile.FieldType.boolean)) ∈ UW := uw_t2 129 rfl rfl
theorem mw_370 : (Jvm.Cond.methodLink "MixerStation" (290 : Nat) ({ cls := "MixerStation$State", name := "freeTarget", desc := "()I" } : Jvm.MethodName)) ∈ UW := uw_t2 130 rfl rfl
theorem mw_371 : (Jvm.Cond.methodLink "MixerStation" (293 : Nat) ({ cls := "MixerStation$State", name := "isPinched", desc := "()Z" } : Jvm.MethodName)) ∈ UW := uw_t2 131 rfl rfl
theorem mw_372 : (Jvm.Cond.methodLink "MixerStationLaw" (99 : Nat) ({ cls := "MixerStationLaw", name := "append", desc := "(LMixerStation;I[J)I" } : Jvm.MethodName)) ∈ UW := uw_t2 132 rfl rfl
theorem mw_373 : (Jvm.Cond.static ({ cls := "MixerStationLaw", name := "append", desc := "(LMixerStation;I[J)I" } : Jvm.MethodName)) ∈ UW := uw_t2 133 rfl rfl
theorem mw_374 : (Jvm.Cond.codeWith ({ cls := "MixerStationLaw", name := "append", desc := "(LMixerStation;I[J)I" } : Jvm.MethodName) method_3_code (4 : Nat) (Option.some Jvm.ClassFile.FieldType.int) [((0 : Nat), (9 : Nat), (12 : Nat), (13 : Nat)), ((0 : Nat), (9 : Nat), (15 : Nat), (15 : Nat))]) ∈ UW := uw_t2 134 rfl rfl
theorem mw_375 : (Jvm.Cond.classLink "MixerStationLaw" (13 : Nat) "java/lang/IllegalArgumentException") ∈ UW := uw_t2 135 rfl rfl
theorem mw_376 : (Jvm.Cond.classLink "MixerStationLaw" (15 : Nat) "java/lang/IllegalStateException") ∈ UW := uw_t2 136 rfl rfl
theorem mw_377 : (Jvm.Cond.methodLink "MixerStationLaw" (7 : Nat) ({ cls := "MixerStation", name := "append", desc := "(I)I" } : Jvm.MethodName)) ∈ UW := uw_t2 137 rfl rfl
theorem mw_378 : (Jvm.Cond.instanceMethod ({ cls := "MixerStation", name := "append", desc := "(I)I" } : Jvm.MethodName)) ∈ UW := uw_t2 138 rfl rfl
theorem mw_379 : (Jvm.Cond.selects "MixerStation" ({ cls := "MixerStation", name := "append", desc := "(I)I" } : Jvm.MethodName) ({ cls := "MixerStation", name := "append", desc := "(I)I" } : Jvm.MethodName)) ∈ UW := uw_t2 139 rfl rfl
theorem mw_380 : (Jvm.Cond.code ({ cls := "MixerStation", name := "append", desc := "(I)I" } : Jvm.MethodName) prog_1_method_2_code (2 : Nat) (Option.some Jvm.ClassFile.FieldType.int)) ∈ UW := uw_t2 140 rfl rfl
theorem mw_381 : (Jvm.Cond.classLink "MixerStation" (38 : Nat) "java/lang/IllegalArgumentException") ∈ UW := uw_t2 141 rfl rfl
theorem mw_382 : (Jvm.Cond.instantiable "java/lang/IllegalArgumentException" (6 : Nat)) ∈ UW := uw_t2 142 rfl rfl
theorem mw_390 : (Jvm.Cond.selects "java/lang/IllegalArgumentException" ({ cls := "java/lang/Throwable", name := "fillInStackTrace", desc := "(I)Ljava/lang/Throwable;" } : Jvm.MethodName) ({ cls := "java/lang/Throwable", name := "fillInStackTrace", desc := "(I)Ljava/lang/Throwable;" } : Jvm.MethodName)) ∈ UW := uw_t2 150 rfl rfl
theorem mw_391 : (Jvm.Cond.selects "java/lang/IllegalArgumentException" ({ cls := "java/lang/Throwable", name := "fillInStackTrace", desc := "()Ljava/lang/Throwable;" } : Jvm.MethodName) ({ cls := "java/lang/Throwable", name := "fillInStackTrace", desc := "()Ljava/lang/Throwable;" } : Jvm.MethodName)) ∈ UW := uw_t2 151 rfl rfl
theorem mw_392 : (Jvm.Cond.lays "java/lang/IllegalArgumentException" "java/lang/Throwable" "cause" "Ljava/lang/Throwable;") ∈ UW := uw_t2 152 rfl rfl
theorem mw_393 : (Jvm.Cond.lays "java/lang/Throwable" "java/lang/Throwable" "cause" "Ljava/lang/Throwable;") ∈ UW := uw_t2 153 rfl rfl
theorem mw_394 : (Jvm.Cond.lays "java/lang/IllegalArgumentException" "java/lang/Throwable" "stackTrace" "[Ljava/lang/StackTraceElement;") ∈ UW := uw_t2 154 rfl rfl
theorem mw_395 : (Jvm.Cond.lays "java/lang/Throwable" "java/lang/Throwable" "stackTrace" "[Ljava/lang/StackTraceElement;") ∈ UW := uw_t2 155 rfl rfl
theorem mw_396 : (Jvm.Cond.lays "java/lang/IllegalArgumentException" "java/lang/Throwable" "suppressedExceptions" "Ljava/util/List;") ∈ UW := uw_t2 156 rfl rfl
theorem mw_397 : (Jvm.Cond.lays "java/lang/Throwable" "java/lang/Throwable" "suppressedExceptions" "Ljava/util/List;") ∈ UW := uw_t2 157 rfl rfl
theorem mw_398 : (Jvm.Cond.lays "java/lang/IllegalArgumentException" "java/lang/Throwable" "detailMessage" "Ljava/lang/String;") ∈ UW := uw_t2 158 rfl rfl
theorem mw_399 : (Jvm.Cond.lays "java/lang/Throwable" "java/lang/Throwable" "detailMessage" "Ljava/lang/String;") ∈ UW := uw_t2 159 rfl rfl
theorem mw_400 : (Jvm.Cond.lays "java/lang/IllegalArgumentException" "java/lang/Throwable" "backtrace" "Ljava/lang/Object;") ∈ UW := uw_t2 160 rfl rfl
theorem mw_401 : (Jvm.Cond.lays "java/lang/Throwable" "java/lang/Throwable" "backtrace" "Ljava/lang/Object;") ∈ UW := uw_t2 161 rfl rfl
theorem mw_402 : (Jvm.Cond.fieldLink "java/lang/Throwable" (198 : Nat) "java/lang/Throwable" "backtrace" "Ljava/lang/Object;") ∈ UW := uw_t2 162 rfl rfl
theorem mw_404 : (Jvm.Cond.instanceMethod ({ cls := "java/lang/Throwable", name := "<init>", desc := "()V" } : Jvm.MethodName)) ∈ UW := uw_t2 164 rfl rfl
theorem mw_405 : (Jvm.Cond.code ({ cls := "java/lang/Throwable", name := "<init>", desc := "()V" } : Jvm.MethodName) prog_17_method_1_code (1 : Nat) (Option.none : Option Jvm.ClassFile.FieldType)) ∈ UW := uw_t2 165 rfl rfl
theorem mw_406 : (Jvm.Cond.methodLink "java/lang/Throwable" (1 : Nat) ({ cls := "java/lang/Object", name := "<init>", desc := "()V" } : Jvm.MethodName)) ∈ UW := uw_t2 166 rfl rfl
theorem mw_407 : (Jvm.Cond.fieldLink "java/lang/Throwable" (13 : Nat) "java/lang/Throwable" "UNASSIGNED_STACK" "[Ljava/lang/StackTraceElement;") ∈ UW := uw_t2 167 rfl rfl
theorem mw_409 : (Jvm.Cond.fieldLink "java/lang/Throwable" (20 : Nat) "java/lang/Throwable" "SUPPRESSED_SENTINEL" "Ljava/util/List;") ∈ UW := uw_t2 169 rfl rfl
theorem mw_411 : (Jvm.Cond.methodLink "java/lang/Throwable" (27 : Nat) ({ cls := "java/lang/Throwable", name := "fillInStackTrace", desc := "()Ljava/lang/Throwable;" } : Jvm.MethodName)) ∈ UW := uw_t2 171 rfl rfl
theorem mw_412 : (Jvm.Cond.instanceMethod ({ cls := "java/lang/Throwable", name := "fillInStackTrace", desc := "()Ljava/lang/Throwable;" } : Jvm.MethodName)) ∈ UW := uw_t2 172 rfl rfl
theorem mw_414 : (Jvm.Cond.selects "java/lang/IllegalStateException" ({ cls := "java/lang/Throwable", name := "fillInStackTrace", desc := "()Ljava/lang/Throwable;" } : Jvm.MethodName) ({ cls := "java/lang/Throwable", name := "fillInStackTrace", desc := "()Ljava/lang/Throwable;" } : Jvm.MethodName)) ∈ UW := uw_t2 174 rfl rfl
theorem mw_415 : (Jvm.Cond.selects "java/lang/IndexOutOfBoundsException" ({ cls := "java/lang/Throwable", name := "fillInStackTrace", desc := "()Ljava/lang/Throwable;" } : Jvm.MethodName) ({ cls := "java/lang/Throwable", name := "fillInStackTrace", desc := "()Ljava/lang/Throwable;" } : Jvm.MethodName)) ∈ UW := uw_t2 175 rfl rfl
theorem mw_417 : (Jvm.Cond.methodLink "java/lang/Throwable" (202 : Nat) ({ cls := "java/lang/Throwable", name := "fillInStackTrace", desc := "(I)Ljava/lang/Throwable;" } : Jvm.MethodName)) ∈ UW := uw_t2 177 rfl rfl
theorem mw_419 : (Jvm.Cond.instanceMethod ({ cls := "java/lang/Throwable", name := "fillInStackTrace", desc := "(I)Ljava/lang/Throwable;" } : Jvm.MethodName)) ∈ UW := uw_t2 179 rfl rfl
theorem mw_420 : (Jvm.Cond.instantiable "java/lang/Throwable" (6 : Nat)) ∈ UW := uw_t2 180 rfl rfl
theorem mw_421 : (Jvm.Cond.native ({ cls := "java/lang/Throwable", name := "fillInStackTrace", desc := "(I)Ljava/lang/Throwable;" } : Jvm.MethodName)) ∈ UW := uw_t2 181 rfl rfl
theorem mw_423 : (Jvm.Cond.methodLink "MixerStation" (42 : Nat) ({ cls := "java/lang/IllegalArgumentException", name := "<init>", desc := "(Ljava/lang/String;)V" } : Jvm.MethodName)) ∈ UW := uw_t2 183 rfl rfl
theorem mw_424 : (Jvm.Cond.instanceMethod ({ cls := "java/lang/IllegalArgumentException", name := "<init>", desc := "(Ljava/lang/String;)V" } : Jvm.MethodName)) ∈ UW := uw_t2 184 rfl rfl
theorem mw_425 : (Jvm.Cond.code ({ cls := "java/lang/IllegalArgumentException", name := "<init>", desc := "(Ljava/lang/String;)V" } : Jvm.MethodName) prog_10_method_2_code (2 : Nat) (Option.none : Option Jvm.ClassFile.FieldType)) ∈ UW := uw_t2 185 rfl rfl
theorem mw_426 : (Jvm.Cond.methodLink "java/lang/IllegalArgumentException" (7 : Nat) ({ cls := "java/lang/RuntimeException", name := "<init>", desc := "(Ljava/lang/String;)V" } : Jvm.MethodName)) ∈ UW := uw_t2 186 rfl rfl
theorem mw_427 : (Jvm.Cond.instanceMethod ({ cls := "java/lang/RuntimeException", name := "<init>", desc := "(Ljava/lang/String;)V" } : Jvm.MethodName)) ∈ UW := uw_t2 187 rfl rfl
theorem mw_428 : (Jvm.Cond.code ({ cls := "java/lang/RuntimeException", name := "<init>", desc := "(Ljava/lang/String;)V" } : Jvm.MethodName) prog_14_method_2_code (2 : Nat) (Option.none : Option Jvm.ClassFile.FieldType)) ∈ UW := uw_t2 188 rfl rfl
theorem mw_429 : (Jvm.Cond.methodLink "java/lang/RuntimeException" (7 : Nat) ({ cls := "java/lang/Exception", name := "<init>", desc := "(Ljava/lang/String;)V" } : Jvm.MethodName)) ∈ UW := uw_t2 189 rfl rfl
theorem mw_430 : (Jvm.Cond.instanceMethod ({ cls := "java/lang/Exception", name := "<init>", desc := "(Ljava/lang/String;)V" } : Jvm.MethodName)) ∈ UW := uw_t2 190 rfl rfl
theorem mw_431 : (Jvm.Cond.code ({ cls := "java/lang/Exception", name := "<init>", desc := "(Ljava/lang/String;)V" } : Jvm.MethodName) prog_9_method_2_code (2 : Nat) (Option.none : Option Jvm.ClassFile.FieldType)) ∈ UW := uw_t2 191 rfl rfl
theorem mw_432 : (Jvm.Cond.methodLink "java/lang/Exception" (7 : Nat) ({ cls := "java/lang/Throwable", name := "<init>", desc := "(Ljava/lang/String;)V" } : Jvm.MethodName)) ∈ UW := uw_t2 192 rfl rfl
theorem mw_433 : (Jvm.Cond.instanceMethod ({ cls := "java/lang/Throwable", name := "<init>", desc := "(Ljava/lang/String;)V" } : Jvm.MethodName)) ∈ UW := uw_t2 193 rfl rfl
theorem mw_434 : (Jvm.Cond.code ({ cls := "java/lang/Throwable", name := "<init>", desc := "(Ljava/lang/String;)V" } : Jvm.MethodName) prog_17_method_2_code (2 : Nat) (Option.none : Option Jvm.ClassFile.FieldType)) ∈ UW := uw_t2 194 rfl rfl
theorem mw_435 : (Jvm.Cond.fieldLink "java/lang/Throwable" (198 : Nat) "java/lang/Throwable" "backtrace" "Ljava/lang/Object;") ∈ UW := uw_t2 195 rfl rfl
theorem mw_436 : (Jvm.Cond.fieldLink "java/lang/Throwable" (31 : Nat) "java/lang/Throwable" "detailMessage" "Ljava/lang/String;") ∈ UW := uw_t2 196 rfl rfl
theorem mw_437 : (Jvm.Cond.fieldLink "java/lang/Throwable" (7 : Nat) "java/lang/Throwable" "cause" "Ljava/lang/Throwable;") ∈ UW := uw_t2 197 rfl rfl
theorem mw_438 : (Jvm.Cond.fieldLink "java/lang/Throwable" (17 : Nat) "java/lang/Throwable" "stackTrace" "[Ljava/lang/StackTraceElement;") ∈ UW := uw_t2 198 rfl rfl
theorem mw_439 : (Jvm.Cond.fieldLink "java/lang/Throwable" (24 : Nat) "java/lang/Throwable" "suppressedExceptions" "Ljava/util/List;") ∈ UW := uw_t2 199 rfl rfl
theorem mw_444 : (Jvm.Cond.lays "java/lang/IllegalArgumentException" "java/lang/Throwable" "depth" "I") ∈ UW := uw_t2 204 rfl rfl
theorem mw_448 : (Jvm.Cond.arrayClass Jvm.ClassFile.FieldType.byte) ∈ UW := uw_t2 208 rfl rfl
theorem mw_449 : (Jvm.Cond.classLink "MixerStation" (49 : Nat) "java/lang/IllegalStateException") ∈ UW := uw_t2 209 rfl rfl
theorem mw_450 : (Jvm.Cond.instantiable "java/lang/IllegalStateException" (6 : Nat)) ∈ UW := uw_t2 210 rfl rfl
theorem mw_452 : (Jvm.Cond.selects "java/lang/IllegalStateException" ({ cls := "java/lang/Throwable", name := "fillInStackTrace", desc := "(I)Ljava/lang/Throwable;" } : Jvm.MethodName) ({ cls := "java/lang/Throwable", name := "fillInStackTrace", desc := "(I)Ljava/lang/Throwable;" } : Jvm.MethodName)) ∈ UW := uw_t2 212 rfl rfl
theorem mw_453 : (Jvm.Cond.lays "java/lang/IllegalStateException" "java/lang/Throwable" "cause" "Ljava/lang/Throwable;") ∈ UW := uw_t2 213 rfl rfl
theorem mw_454 : (Jvm.Cond.lays "java/lang/IllegalStateException" "java/lang/Throwable" "stackTrace" "[Ljava/lang/StackTraceElement;") ∈ UW := uw_t2 214 rfl rfl
theorem mw_455 : (Jvm.Cond.lays "java/lang/IllegalStateException" "java/lang/Throwable" "suppressedExceptions" "Ljava/util/List;") ∈ UW := uw_t2 215 rfl rfl
theorem mw_456 : (Jvm.Cond.lays "java/lang/IllegalStateException" "java/lang/Throwable" "detailMessage" "Ljava/lang/String;") ∈ UW := uw_t2 216 rfl rfl
theorem mw_457 : (Jvm.Cond.lays "java/lang/IllegalStateException" "java/lang/Throwable" "backtrace" "Ljava/lang/Object;") ∈ UW := uw_t2 217 rfl rfl
theorem mw_459 : (Jvm.Cond.methodLink "MixerStation" (53 : Nat) ({ cls := "java/lang/IllegalStateException", name := "<init>", desc := "(Ljava/lang/String;)V" } : Jvm.MethodName)) ∈ UW := uw_t2 219 rfl rfl
theorem mw_460 : (Jvm.Cond.instanceMethod ({ cls := "java/lang/IllegalStateException", name := "<init>", desc := "(Ljava/lang/String;)V" } : Jvm.MethodName)) ∈ UW := uw_t2 220 rfl rfl
theorem mw_461 : (Jvm.Cond.code ({ cls := "java/lang/IllegalStateException", name := "<init>", desc := "(Ljava/lang/String;)V" } : Jvm.MethodName) prog_11_method_2_code (2 : Nat) (Option.none : Option Jvm.ClassFile.FieldType)) ∈ UW := uw_t2 221 rfl rfl
theorem mw_462 : (Jvm.Cond.methodLink "java/lang/IllegalStateException" (7 : Nat) ({ cls := "java/lang/RuntimeException", name := "<init>", desc := "(Ljava/lang/String;)V" } : Jvm.MethodName)) ∈ UW := uw_t2 222 rfl rfl
theorem mw_463 : (Jvm.Cond.lays "java/lang/IllegalStateException" "java/lang/Throwable" "depth" "I") ∈ UW := uw_t2 223 rfl rfl
theorem mw_465 : (Jvm.Cond.methodLink "MixerStationLaw" (116 : Nat) ({ cls := "MixerStationLaw", name := "load", desc := "(LMixerStation;[J)I" } : Jvm.MethodName)) ∈ UW := uw_t2 225 rfl rfl
theorem mw_466 : (Jvm.Cond.static ({ cls := "MixerStationLaw", name := "load", desc := "(LMixerStation;[J)I" } : Jvm.MethodName)) ∈ UW := uw_t2 226 rfl rfl
theorem mw_467 : (Jvm.Cond.codeWith ({ cls := "MixerStationLaw", name := "load", desc := "(LMixerStation;[J)I" } : Jvm.MethodName) method_4_code (3 : Nat) (Option.some Jvm.ClassFile.FieldType.int) [((0 : Nat), (8 : Nat), (11 : Nat), (15 : Nat))]) ∈ UW := uw_t2 227 rfl rfl
theorem mw_468 : (Jvm.Cond.methodLink "MixerStationLaw" (17 : Nat) ({ cls := "MixerStation", name := "load", desc := "()I" } : Jvm.MethodName)) ∈ UW := uw_t2 228 rfl rfl
theorem mw_469 : (Jvm.Cond.instanceMethod ({ cls := "MixerStation", name := "load", desc := "()I" } : Jvm.MethodName)) ∈ UW := uw_t2 229 rfl rfl
theorem mw_470 : (Jvm.Cond.selects "MixerStation" ({ cls := "MixerStation", name := "load", desc := "()I" } : Jvm.MethodName) ({ cls := "MixerStation", name := "load", desc := "()I" } : Jvm.MethodName)) ∈ UW := uw_t2 230 rfl rfl
theorem mw_471 : (Jvm.Cond.code ({ cls := "MixerStation", name := "load", desc := "()I" } : Jvm.MethodName) prog_1_method_5_code (3 : Nat) (Option.some Jvm.ClassFile.FieldType.int)) ∈ UW := uw_t2 231 rfl rfl
theorem mw_473 : (Jvm.Cond.methodLink "MixerStation" (73 : Nat) ({ cls := "MixerStation$History", name := "forgetAll", desc := "()V" } : Jvm.MethodName)) ∈ UW := uw_t2 233 rfl rfl
theorem mw_474 : (Jvm.Cond.instanceMethod ({ cls := "MixerStation$History", name := "forgetAll", desc := "()V" } : Jvm.MethodName)) ∈ UW := uw_t2 234 rfl rfl
theorem mw_475 : (Jvm.Cond.selects "MixerStation$History" ({ cls := "MixerStation$History", name := "forgetAll", desc := "()V" } : Jvm.MethodName) ({ cls := "MixerStation$History", name := "forgetAll", desc := "()V" } : Jvm.MethodName)) ∈ UW := uw_t2 235 rfl rfl
theorem mw_476 : (Jvm.Cond.code ({ cls := "MixerStation$History", name := "forgetAll", desc := "()V" } : Jvm.MethodName) prog_2_method_3_code (1 : Nat) (Option.none : Option Jvm.ClassFile.FieldType)) ∈ UW := uw_t2 236 rfl rfl
theorem mw_477 : (Jvm.Cond.methodLink "MixerStationLaw" (120 : Nat) ({ cls := "MixerStationLaw", name := "about", desc := "(LMixerStation;I[J)I" } : Jvm.MethodName)) ∈ UW := uw_t2 237 rfl rfl
theorem mw_478 : (Jvm.Cond.static ({ cls := "MixerStationLaw", name := "about", desc := "(LMixerStation;I[J)I" } : Jvm.MethodName)) ∈ UW := uw_t2 238 rfl rfl
theorem mw_479 : (Jvm.Cond.codeWith ({ cls := "MixerStationLaw", name := "about", desc := "(LMixerStation;I[J)I" } : Jvm.MethodName) method_5_code (4 : Nat) (Option.some Jvm.ClassFile.FieldType.int) [((0 : Nat), (9 : Nat), (12 : Nat), (13 : Nat))]) ∈ UW := uw_t2 239 rfl rfl
theorem mw_480 : (Jvm.Cond.methodLink "MixerStationLaw" (21 : Nat) ({ cls := "MixerStation", name := "about", desc := "(I)I" } : Jvm.MethodName)) ∈ UW := uw_t3 0 rfl rfl
theorem mw_481 : (Jvm.Cond.instanceMethod ({ cls := "MixerStation", name := "about", desc := "(I)I" } : Jvm.MethodName)) ∈ UW := uw_t3 1 rfl rfl
theorem mw_482 : (Jvm.Cond.selects "MixerStation" ({ cls := "MixerStation", name := "about", desc := "(I)I" } : Jvm.MethodName) ({ cls := "MixerStation", name := "about", desc := "(I)I" } : Jvm.MethodName)) ∈ UW := uw_t3 2 rfl rfl
theorem mw_483 : (Jvm.Cond.code ({ cls := "MixerStation", name := "about", desc := "(I)I" } : Jvm.MethodName) prog_1_method_6_code (2 : Nat) (Option.some Jvm.ClassFile.FieldType.int)) ∈ UW := uw_t3 3 rfl rfl
theorem mw_484 : (Jvm.Cond.methodLink "MixerStation" (101 : Nat) ({ cls := "MixerStation$State", name := "loopShouldHave", desc := "()I" } : Jvm.MethodName)) ∈ UW := uw_t3 4 rfl rfl
theorem mw_485 : (Jvm.Cond.methodLink "MixerStation" (108 : Nat) ({ cls := "MixerStation$State", name := "allHeat", desc := "()I" } : Jvm.MethodName)) ∈ UW := uw_t3 5 rfl rfl
theorem mw_486 : (Jvm.Cond.instanceMethod ({ cls := "MixerStation$State", name := "allHeat", desc := "()I" } : Jvm.MethodName)) ∈ UW := uw_t3 6 rfl rfl
theorem mw_487 : (Jvm.Cond.selects "MixerStation$State" ({ cls := "MixerStation$State", name := "allHeat", desc := "()I" } : Jvm.MethodName) ({ cls := "MixerStation$State", name := "allHeat", desc := "()I" } : Jvm.MethodName)) ∈ UW := uw_t3 7 rfl rfl
theorem mw_488 : (Jvm.Cond.code ({ cls := "MixerStation$State", name := "allHeat", desc := "()I" } : Jvm.MethodName) prog_5_method_14_code (3 : Nat) (Option.some Jvm.ClassFile.FieldType.int)) ∈ UW := uw_t3 8 rfl rfl
theorem mw_489 : (Jvm.Cond.methodLink "MixerStation" (120 : Nat) ({ cls := "MixerStation$State", name := "allComfort", desc := "()I" } : Jvm.MethodName)) ∈ UW := uw_t3 9 rfl rfl
theorem mw_490 : (Jvm.Cond.instanceMethod ({ cls := "MixerStation$State", name := "allComfort", desc := "()I" } : Jvm.MethodName)) ∈ UW := uw_t3 10 rfl rfl
theorem mw_491 : (Jvm.Cond.selects "MixerStation$State" ({ cls := "MixerStation$State", name := "allComfort", desc := "()I" } : Jvm.MethodName) ({ cls := "MixerStation$State", name := "allComfort", desc := "()I" } : Jvm.MethodName)) ∈ UW := uw_t3 11 rfl rfl
theorem mw_492 : (Jvm.Cond.code ({ cls := "MixerStation$State", name := "allComfort", desc := "()I" } : Jvm.MethodName) prog_5_method_15_code (3 : Nat) (Option.some Jvm.ClassFile.FieldType.int)) ∈ UW := uw_t3 12 rfl rfl
theorem mw_494 : (Jvm.Cond.methodLink "MixerStationLaw" (123 : Nat) ({ cls := "MixerStationLaw", name := "setting", desc := "(LMixerStation;I[J)I" } : Jvm.MethodName)) ∈ UW := uw_t3 14 rfl rfl
theorem mw_495 : (Jvm.Cond.static ({ cls := "MixerStationLaw", name := "setting", desc := "(LMixerStation;I[J)I" } : Jvm.MethodName)) ∈ UW := uw_t3 15 rfl rfl
theorem mw_496 : (Jvm.Cond.codeWith ({ cls := "MixerStationLaw", name := "setting", desc := "(LMixerStation;I[J)I" } : Jvm.MethodName) method_6_code (4 : Nat) (Option.some Jvm.ClassFile.FieldType.int) [((0 : Nat), (9 : Nat), (12 : Nat), (13 : Nat))]) ∈ UW := uw_t3 16 rfl rfl
theorem mw_497 : (Jvm.Cond.methodLink "MixerStationLaw" (24 : Nat) ({ cls := "MixerStation", name := "setting", desc := "(I)I" } : Jvm.MethodName)) ∈ UW := uw_t3 17 rfl rfl
theorem mw_498 : (Jvm.Cond.instanceMethod ({ cls := "MixerStation", name := "setting", desc := "(I)I" } : Jvm.MethodName)) ∈ UW := uw_t3 18 rfl rfl
theorem mw_499 : (Jvm.Cond.selects "MixerStation" ({ cls := "MixerStation", name := "setting", desc := "(I)I" } : Jvm.MethodName) ({ cls := "MixerStation", name := "setting", desc := "(I)I" } : Jvm.MethodName)) ∈ UW := uw_t3 19 rfl rfl
theorem mw_500 : (Jvm.Cond.code ({ cls := "MixerStation", name := "setting", desc := "(I)I" } : Jvm.MethodName) prog_1_method_7_code (2 : Nat) (Option.some Jvm.ClassFile.FieldType.int)) ∈ UW := uw_t3 20 rfl rfl
theorem mw_502 : (Jvm.Cond.methodLink "MixerStationLaw" (126 : Nat) ({ cls := "MixerStationLaw", name := "place", desc := "(LMixerStation;II[J)I" } : Jvm.MethodName)) ∈ UW := uw_t3 22 rfl rfl
theorem mw_503 : (Jvm.Cond.static ({ cls := "MixerStationLaw", name := "place", desc := "(LMixerStation;II[J)I" } : Jvm.MethodName)) ∈ UW := uw_t3 23 rfl rfl
theorem mw_504 : (Jvm.Cond.codeWith ({ cls := "MixerStationLaw", name := "place", desc := "(LMixerStation;II[J)I" } : Jvm.MethodName) method_7_code (5 : Nat) (Option.some Jvm.ClassFile.FieldType.int) [((0 : Nat), (10 : Nat), (13 : Nat), (31 : Nat)), ((0 : Nat), (10 : Nat), (17 : Nat), (13 : Nat))]) ∈ UW := uw_t3 24 rfl rfl
theorem mw_505 : (Jvm.Cond.classLink "MixerStationLaw" (31 : Nat) "java/lang/IndexOutOfBoundsException") ∈ UW := uw_t3 25 rfl rfl
theorem mw_506 : (Jvm.Cond.methodLink "MixerStationLaw" (27 : Nat) ({ cls := "MixerStation", name := "place", desc := "(II)I" } : Jvm.MethodName)) ∈ UW := uw_t3 26 rfl rfl
theorem mw_507 : (Jvm.Cond.instanceMethod ({ cls := "MixerStation", name := "place", desc := "(II)I" } : Jvm.MethodName)) ∈ UW := uw_t3 27 rfl rfl
theorem mw_508 : (Jvm.Cond.selects "MixerStation" ({ cls := "MixerStation", name := "place", desc := "(II)I" } : Jvm.MethodName) ({ cls := "MixerStation", name := "place", desc := "(II)I" } : Jvm.MethodName)) ∈ UW := uw_t3 28 rfl rfl
theorem mw_509 : (Jvm.Cond.code ({ cls := "MixerStation", name := "place", desc := "(II)I" } : Jvm.MethodName) prog_1_method_8_code (3 : Nat) (Option.some Jvm.ClassFile.FieldType.int)) ∈ UW := uw_t3 29 rfl rfl
theorem mw_510 : (Jvm.Cond.methodLink "MixerStation" (131 : Nat) ({ cls := "MixerStation$State", name := "hasPlace", desc := "(I)Z" } : Jvm.MethodName)) ∈ UW := uw_t3 30 rfl rfl
theorem mw_511 : (Jvm.Cond.instanceMethod ({ cls := "MixerStation$State", name := "hasPlace", desc := "(I)Z" } : Jvm.MethodName)) ∈ UW := uw_t3 31 rfl rfl
theorem mw_512 : (Jvm.Cond.selects "MixerStation$State" ({ cls := "MixerStation$State", name := "hasPlace", desc := "(I)Z" } : Jvm.MethodName) ({ cls := "MixerStation$State", name := "hasPlace", desc := "(I)Z" } : Jvm.MethodName)) ∈ UW := uw_t3 32 rfl rfl
theorem mw_513 : (Jvm.Cond.code ({ cls := "MixerStation$State", name := "hasPlace", desc := "(I)Z" } : Jvm.MethodName) prog_5_method_5_code (2 : Nat) (Option.some Jvm.ClassFile.FieldType.boolean)) ∈ UW := uw_t3 33 rfl rfl
theorem mw_514 : (Jvm.Cond.methodLink "MixerStation$State" (86 : Nat) ({ cls := "MixerStation$State", name := "hasRoom", desc := "(I)Z" } : Jvm.MethodName)) ∈ UW := uw_t3 34 rfl rfl
theorem mw_515 : (Jvm.Cond.instanceMethod ({ cls := "MixerStation$State", name := "hasRoom", desc := "(I)Z" } : Jvm.MethodName)) ∈ UW := uw_t3 35 rfl rfl
theorem mw_516 : (Jvm.Cond.selects "MixerStation$State" ({ cls := "MixerStation$State", name := "hasRoom", desc := "(I)Z" } : Jvm.MethodName) ({ cls := "MixerStation$State", name := "hasRoom", desc := "(I)Z" } : Jvm.MethodName)) ∈ UW := uw_t3 36 rfl rfl
theorem mw_517 : (Jvm.Cond.code ({ cls := "MixerStation$State", name := "hasRoom", desc := "(I)Z" } : Jvm.MethodName) prog_5_method_4_code (2 : Nat) (Option.some Jvm.ClassFile.FieldType.boolean)) ∈ UW := uw_t3 37 rfl rfl
theorem mw_518 : (Jvm.Cond.classLink "MixerStation" (135 : Nat) "java/lang/IndexOutOfBoundsException") ∈ UW := uw_t3 38 rfl rfl
theorem mw_519 : (Jvm.Cond.instantiable "java/lang/IndexOutOfBoundsException" (6 : Nat)) ∈ UW := uw_t3 39 rfl rfl
theorem mw_521 : (Jvm.Cond.selects "java/lang/IndexOutOfBoundsException" ({ cls := "java/lang/Throwable", name := "fillInStackTrace", desc := "(I)Ljava/lang/Throwable;" } : Jvm.MethodName) ({ cls := "java/lang/Throwable", name := "fillInStackTrace", desc := "(I)Ljava/lang/Throwable;" } : Jvm.MethodName)) ∈ UW := uw_t3 41 rfl rfl
theorem mw_522 : (Jvm.Cond.lays "java/lang/IndexOutOfBoundsException" "java/lang/Throwable" "cause" "Ljava/lang/Throwable;") ∈ UW := uw_t3 42 rfl rfl
theorem mw_523 : (Jvm.Cond.lays "java/lang/IndexOutOfBoundsException" "java/lang/Throwable" "stackTrace" "[Ljava/lang/StackTraceElement;") ∈ UW := uw_t3 43 rfl rfl
theorem mw_524 : (Jvm.Cond.lays "java/lang/IndexOutOfBoundsException" "java/lang/Throwable" "suppressedExceptions" "Ljava/util/List;") ∈ UW := uw_t3 44 rfl rfl
theorem mw_525 : (Jvm.Cond.lays "java/lang/IndexOutOfBoundsException" "java/lang/Throwable" "detailMessage" "Ljava/lang/String;") ∈ UW := uw_t3 45 rfl rfl
theorem mw_526 : (Jvm.Cond.lays "java/lang/IndexOutOfBoundsException" "java/lang/Throwable" "backtrace" "Ljava/lang/Object;") ∈ UW := uw_t3 46 rfl rfl
theorem mw_528 : (Jvm.Cond.methodLink "MixerStation" (139 : Nat) ({ cls := "java/lang/IndexOutOfBoundsException", name := "<init>", desc := "(Ljava/lang/String;)V" } : Jvm.MethodName)) ∈ UW := uw_t3 48 rfl rfl
theorem mw_529 : (Jvm.Cond.instanceMethod ({ cls := "java/lang/IndexOutOfBoundsException", name := "<init>", desc := "(Ljava/lang/String;)V" } : Jvm.MethodName)) ∈ UW := uw_t3 49 rfl rfl
theorem mw_530 : (Jvm.Cond.code ({ cls := "java/lang/IndexOutOfBoundsException", name := "<init>", desc := "(Ljava/lang/String;)V" } : Jvm.MethodName) prog_12_method_2_code (2 : Nat) (Option.none : Option Jvm.ClassFile.FieldType)) ∈ UW := uw_t3 50 rfl rfl
theorem mw_531 : (Jvm.Cond.methodLink "java/lang/IndexOutOfBoundsException" (7 : Nat) ({ cls := "java/lang/RuntimeException", name := "<init>", desc := "(Ljava/lang/String;)V" } : Jvm.MethodName)) ∈ UW := uw_t3 51 rfl rfl
theorem mw_532 : (Jvm.Cond.lays "java/lang/IndexOutOfBoundsException" "java/lang/Throwable" "depth" "I") ∈ UW := uw_t3 52 rfl rfl
theorem mw_534 : (Jvm.Cond.methodLink "MixerStation" (140 : Nat) ({ cls := "MixerStation$State", name := "heatOf", desc := "(I)I" } : Jvm.MethodName)) ∈ UW := uw_t3 54 rfl rfl
theorem mw_535 : (Jvm.Cond.instanceMethod ({ cls := "MixerStation$State", name := "heatOf", desc := "(I)I" } : Jvm.MethodName)) ∈ UW := uw_t3 55 rfl rfl
theorem mw_536 : (Jvm.Cond.selects "MixerStation$State" ({ cls := "MixerStation$State", name := "heatOf", desc := "(I)I" } : Jvm.MethodName) ({ cls := "MixerStation$State", name := "heatOf", desc := "(I)I" } : Jvm.MethodName)) ∈ UW := uw_t3 56 rfl rfl
theorem mw_537 : (Jvm.Cond.code ({ cls := "MixerStation$State", name := "heatOf", desc := "(I)I" } : Jvm.MethodName) prog_5_method_11_code (2 : Nat) (Option.some Jvm.ClassFile.FieldType.int)) ∈ UW := uw_t3 57 rfl rfl
theorem mw_538 : (Jvm.Cond.methodLink "MixerStation" (146 : Nat) ({ cls := "MixerStation$State", name := "capacityOf", desc := "(I)I" } : Jvm.MethodName)) ∈ UW := uw_t3 58 rfl rfl
theorem mw_539 : (Jvm.Cond.instanceMethod ({ cls := "MixerStation$State", name := "capacityOf", desc := "(I)I" } : Jvm.MethodName)) ∈ UW := uw_t3 59 rfl rfl
theorem mw_540 : (Jvm.Cond.selects "MixerStation$State" ({ cls := "MixerStation$State", name := "capacityOf", desc := "(I)I" } : Jvm.MethodName) ({ cls := "MixerStation$State", name := "capacityOf", desc := "(I)I" } : Jvm.MethodName)) ∈ UW := uw_t3 60 rfl rfl
theorem mw_541 : (Jvm.Cond.code ({ cls := "MixerStation$State", name := "capacityOf", desc := "(I)I" } : Jvm.MethodName) prog_5_method_12_code (2 : Nat) (Option.some Jvm.ClassFile.FieldType.int)) ∈ UW := uw_t3 61 rfl rfl
theorem mw_543 : (Jvm.Cond.methodLink "MixerStationLaw" (130 : Nat) ({ cls := "MixerStationLaw", name := "room", desc := "(LMixerStation;II[J)I" } : Jvm.MethodName)) ∈ UW := uw_t3 63 rfl rfl
theorem mw_544 : (Jvm.Cond.static ({ cls := "MixerStationLaw", name := "room", desc := "(LMixerStation;II[J)I" } : Jvm.MethodName)) ∈ UW := uw_t3 64 rfl rfl
theorem mw_545 : (Jvm.Cond.codeWith ({ cls := "MixerStationLaw", name := "room", desc := "(LMixerStation;II[J)I" } : Jvm.MethodName) method_8_code (5 : Nat) (Option.some Jvm.ClassFile.FieldType.int) [((0 : Nat), (10 : Nat), (13 : Nat), (31 : Nat)), ((0 : Nat), (10 : Nat), (17 : Nat), (13 : Nat))]) ∈ UW := uw_t3 65 rfl rfl
theorem mw_546 : (Jvm.Cond.methodLink "MixerStationLaw" (33 : Nat) ({ cls := "MixerStation", name := "room", desc := "(II)I" } : Jvm.MethodName)) ∈ UW := uw_t3 66 rfl rfl
theorem mw_547 : (Jvm.Cond.instanceMethod ({ cls := "MixerStation", name := "room", desc := "(II)I" } : Jvm.MethodName)) ∈ UW := uw_t3 67 rfl rfl
theorem mw_548 : (Jvm.Cond.selects "MixerStation" ({ cls := "MixerStation", name := "room", desc := "(II)I" } : Jvm.MethodName) ({ cls := "MixerStation", name := "room", desc := "(II)I" } : Jvm.MethodName)) ∈ UW := uw_t3 68 rfl rfl
theorem mw_549 : (Jvm.Cond.code ({ cls := "MixerStation", name := "room", desc := "(II)I" } : Jvm.MethodName) prog_1_method_9_code (4 : Nat) (Option.some Jvm.ClassFile.FieldType.int)) ∈ UW := uw_t3 69 rfl rfl
theorem mw_550 : (Jvm.Cond.methodLink "MixerStation" (151 : Nat) ({ cls := "MixerStation$State", name := "hasRoom", desc := "(I)Z" } : Jvm.MethodName)) ∈ UW := uw_t3 70 rfl rfl
theorem mw_553 : (Jvm.Cond.methodLink "MixerStationLaw" (133 : Nat) ({ cls := "MixerStationLaw", name := "moved", desc := "(LMixerStation;II[J)I" } : Jvm.MethodName)) ∈ UW := uw_t3 73 rfl rfl
theorem mw_554 : (Jvm.Cond.static ({ cls := "MixerStationLaw", name := "moved", desc := "(LMixerStation;II[J)I" } : Jvm.MethodName)) ∈ UW := uw_t3 74 rfl rfl
theorem mw_555 : (Jvm.Cond.codeWith ({ cls := "MixerStationLaw", name := "moved", desc := "(LMixerStation;II[J)I" } : Jvm.MethodName) method_9_code (5 : Nat) (Option.some Jvm.ClassFile.FieldType.int) [((0 : Nat), (10 : Nat), (13 : Nat), (13 : Nat))]) ∈ UW := uw_t3 75 rfl rfl
theorem mw_556 : (Jvm.Cond.methodLink "MixerStationLaw" (36 : Nat) ({ cls := "MixerStation", name := "moved", desc := "(II)I" } : Jvm.MethodName)) ∈ UW := uw_t3 76 rfl rfl
theorem mw_557 : (Jvm.Cond.instanceMethod ({ cls := "MixerStation", name := "moved", desc := "(II)I" } : Jvm.MethodName)) ∈ UW := uw_t3 77 rfl rfl
theorem mw_558 : (Jvm.Cond.selects "MixerStation" ({ cls := "MixerStation", name := "moved", desc := "(II)I" } : Jvm.MethodName) ({ cls := "MixerStation", name := "moved", desc := "(II)I" } : Jvm.MethodName)) ∈ UW := uw_t3 78 rfl rfl
theorem mw_559 : (Jvm.Cond.code ({ cls := "MixerStation", name := "moved", desc := "(II)I" } : Jvm.MethodName) prog_1_method_10_code (3 : Nat) (Option.some Jvm.ClassFile.FieldType.int)) ∈ UW := uw_t3 79 rfl rfl
theorem mw_561 : (Jvm.Cond.methodLink "MixerStation" (187 : Nat) ({ cls := "MixerStation$Ledger", name := "sumBetween", desc := "(II)I" } : Jvm.MethodName)) ∈ UW := uw_t3 81 rfl rfl
theorem mw_562 : (Jvm.Cond.instanceMethod ({ cls := "MixerStation$Ledger", name := "sumBetween", desc := "(II)I" } : Jvm.MethodName)) ∈ UW := uw_t3 82 rfl rfl
theorem mw_563 : (Jvm.Cond.selects "MixerStation$Ledger" ({ cls := "MixerStation$Ledger", name := "sumBetween", desc := "(II)I" } : Jvm.MethodName) ({ cls := "MixerStation$Ledger", name := "sumBetween", desc := "(II)I" } : Jvm.MethodName)) ∈ UW := uw_t3 83 rfl rfl
theorem mw_564 : (Jvm.Cond.code ({ cls := "MixerStation$Ledger", name := "sumBetween", desc := "(II)I" } : Jvm.MethodName) prog_3_method_5_code (4 : Nat) (Option.some Jvm.ClassFile.FieldType.int)) ∈ UW := uw_t3 84 rfl rfl
theorem mw_565 : (Jvm.Cond.methodLink "MixerStationLaw" (136 : Nat) ({ cls := "MixerStationLaw", name := "way", desc := "(LMixerStation;II[J)I" } : Jvm.MethodName)) ∈ UW := uw_t3 85 rfl rfl
theorem mw_566 : (Jvm.Cond.static ({ cls := "MixerStationLaw", name := "way", desc := "(LMixerStation;II[J)I" } : Jvm.MethodName)) ∈ UW := uw_t3 86 rfl rfl
theorem mw_567 : (Jvm.Cond.codeWith ({ cls := "MixerStationLaw", name := "way", desc := "(LMixerStation;II[J)I" } : Jvm.MethodName) method_10_code (5 : Nat) (Option.some Jvm.ClassFile.FieldType.int) [((0 : Nat), (10 : Nat), (13 : Nat), (31 : Nat)), ((0 : Nat), (10 : Nat), (17 : Nat), (13 : Nat))]) ∈ UW := uw_t3 87 rfl rfl
theorem mw_568 : (Jvm.Cond.methodLink "MixerStationLaw" (39 : Nat) ({ cls := "MixerStation", name := "way", desc := "(II)I" } : Jvm.MethodName)) ∈ UW := uw_t3 88 rfl rfl
theorem mw_569 : (Jvm.Cond.instanceMethod ({ cls := "MixerStation", name := "way", desc := "(II)I" } : Jvm.MethodName)) ∈ UW := uw_t3 89 rfl rfl
theorem mw_570 : (Jvm.Cond.selects "MixerStation" ({ cls := "MixerStation", name := "way", desc := "(II)I" } : Jvm.MethodName) ({ cls := "MixerStation", name := "way", desc := "(II)I" } : Jvm.MethodName)) ∈ UW := uw_t3 90 rfl rfl
theorem mw_571 : (Jvm.Cond.code ({ cls := "MixerStation", name := "way", desc := "(II)I" } : Jvm.MethodName) prog_1_method_11_code (3 : Nat) (Option.some Jvm.ClassFile.FieldType.int)) ∈ UW := uw_t3 91 rfl rfl
theorem mw_572 : (Jvm.Cond.methodLink "MixerStation" (191 : Nat) ({ cls := "MixerStation$Ledger", name := "hasWay", desc := "(I)Z" } : Jvm.MethodName)) ∈ UW := uw_t3 92 rfl rfl
theorem mw_573 : (Jvm.Cond.instanceMethod ({ cls := "MixerStation$Ledger", name := "hasWay", desc := "(I)Z" } : Jvm.MethodName)) ∈ UW := uw_t3 93 rfl rfl
theorem mw_574 : (Jvm.Cond.selects "MixerStation$Ledger" ({ cls := "MixerStation$Ledger", name := "hasWay", desc := "(I)Z" } : Jvm.MethodName) ({ cls := "MixerStation$Ledger", name := "hasWay", desc := "(I)Z" } : Jvm.MethodName)) ∈ UW := uw_t3 94 rfl rfl
theorem mw_575 : (Jvm.Cond.code ({ cls := "MixerStation$Ledger", name := "hasWay", desc := "(I)Z" } : Jvm.MethodName) prog_3_method_3_code (2 : Nat) (Option.some Jvm.ClassFile.FieldType.boolean)) ∈ UW := uw_t3 95 rfl rfl
theorem mw_578 : (Jvm.Cond.methodLink "MixerStationLaw" (139 : Nat) ({ cls := "MixerStationLaw", name := "addRoom", desc := "(LMixerStation;IIII[J)I" } : Jvm.MethodName)) ∈ UW := uw_t3 98 rfl rfl
theorem mw_579 : (Jvm.Cond.static ({ cls := "MixerStationLaw", name := "addRoom", desc := "(LMixerStation;IIII[J)I" } : Jvm.MethodName)) ∈ UW := uw_t3 99 rfl rfl
theorem mw_580 : (Jvm.Cond.codeWith ({ cls := "MixerStationLaw", name := "addRoom", desc := "(LMixerStation;IIII[J)I" } : Jvm.MethodName) method_11_code (7 : Nat) (Option.some Jvm.ClassFile.FieldType.int) [((0 : Nat), (14 : Nat), (17 : Nat), (13 : Nat)), ((0 : Nat), (14 : Nat), (21 : Nat), (15 : Nat))]) ∈ UW := uw_t3 100 rfl rfl
theorem mw_581 : (Jvm.Cond.methodLink "MixerStationLaw" (42 : Nat) ({ cls := "MixerStation", name := "addRoom", desc := "(IIII)I" } : Jvm.MethodName)) ∈ UW := uw_t3 101 rfl rfl
theorem mw_582 : (Jvm.Cond.instanceMethod ({ cls := "MixerStation", name := "addRoom", desc := "(IIII)I" } : Jvm.MethodName)) ∈ UW := uw_t3 102 rfl rfl
theorem mw_583 : (Jvm.Cond.selects "MixerStation" ({ cls := "MixerStation", name := "addRoom", desc := "(IIII)I" } : Jvm.MethodName) ({ cls := "MixerStation", name := "addRoom", desc := "(IIII)I" } : Jvm.MethodName)) ∈ UW := uw_t3 103 rfl rfl
theorem mw_584 : (Jvm.Cond.code ({ cls := "MixerStation", name := "addRoom", desc := "(IIII)I" } : Jvm.MethodName) prog_1_method_12_code (5 : Nat) (Option.some Jvm.ClassFile.FieldType.int)) ∈ UW := uw_t3 104 rfl rfl
theorem mw_585 : (Jvm.Cond.methodLink "MixerStation" (208 : Nat) ({ cls := "MixerStation", name := "wantedAllowed", desc := "(I)Z" } : Jvm.MethodName)) ∈ UW := uw_t3 105 rfl rfl
theorem mw_586 : (Jvm.Cond.static ({ cls := "MixerStation", name := "wantedAllowed", desc := "(I)Z" } : Jvm.MethodName)) ∈ UW := uw_t3 106 rfl rfl
theorem mw_587 : (Jvm.Cond.code ({ cls := "MixerStation", name := "wantedAllowed", desc := "(I)Z" } : Jvm.MethodName) prog_1_method_35_code (1 : Nat) (Option.some Jvm.ClassFile.FieldType.boolean)) ∈ UW := uw_t3 107 rfl rfl
theorem mw_588 : (Jvm.Cond.methodLink "MixerStation" (211 : Nat) ({ cls := "MixerStation", name := "radiatorsAllowed", desc := "(I)Z" } : Jvm.MethodName)) ∈ UW := uw_t3 108 rfl rfl
theorem mw_589 : (Jvm.Cond.static ({ cls := "MixerStation", name := "radiatorsAllowed", desc := "(I)Z" } : Jvm.MethodName)) ∈ UW := uw_t3 109 rfl rfl
theorem mw_590 : (Jvm.Cond.code ({ cls := "MixerStation", name := "radiatorsAllowed", desc := "(I)Z" } : Jvm.MethodName) prog_1_method_36_code (1 : Nat) (Option.some Jvm.ClassFile.FieldType.boolean)) ∈ UW := uw_t3 110 rfl rfl
theorem mw_591 : (Jvm.Cond.methodLink "MixerStation" (214 : Nat) ({ cls := "MixerStation", name := "leakAllowed", desc := "(I)Z" } : Jvm.MethodName)) ∈ UW := uw_t3 111 rfl rfl
theorem mw_592 : (Jvm.Cond.static ({ cls := "MixerStation", name := "leakAllowed", desc := "(I)Z" } : Jvm.MethodName)) ∈ UW := uw_t3 112 rfl rfl
theorem mw_593 : (Jvm.Cond.code ({ cls := "MixerStation", name := "leakAllowed", desc := "(I)Z" } : Jvm.MethodName) prog_1_method_37_code (1 : Nat) (Option.some Jvm.ClassFile.FieldType.boolean)) ∈ UW := uw_t3 113 rfl rfl
theorem mw_595 : (Jvm.Cond.methodLink "MixerStation" (219 : Nat) ({ cls := "MixerStation$State", name := "isFull", desc := "()Z" } : Jvm.MethodName)) ∈ UW := uw_t3 115 rfl rfl
theorem mw_597 : (Jvm.Cond.methodLink "MixerStation" (225 : Nat) ({ cls := "MixerStation$History", name := "remember", desc := "(LMixerStation$State;)V" } : Jvm.MethodName)) ∈ UW := uw_t3 117 rfl rfl
theorem mw_598 : (Jvm.Cond.instanceMethod ({ cls := "MixerStation$History", name := "remember", desc := "(LMixerStation$State;)V" } : Jvm.MethodName)) ∈ UW := uw_t3 118 rfl rfl
theorem mw_599 : (Jvm.Cond.selects "MixerStation$History" ({ cls := "MixerStation$History", name := "remember", desc := "(LMixerStation$State;)V" } : Jvm.MethodName) ({ cls := "MixerStation$History", name := "remember", desc := "(LMixerStation$State;)V" } : Jvm.MethodName)) ∈ UW := uw_t3 119 rfl rfl
theorem mw_600 : (Jvm.Cond.code ({ cls := "MixerStation$History", name := "remember", desc := "(LMixerStation$State;)V" } : Jvm.MethodName) prog_2_method_4_code (2 : Nat) (Option.none : Option Jvm.ClassFile.FieldType)) ∈ UW := uw_t3 120 rfl rfl
theorem mw_601 : (Jvm.Cond.methodLink "MixerStation$History" (22 : Nat) ({ cls := "MixerStation$History", name := "forgetOldest", desc := "()V" } : Jvm.MethodName)) ∈ UW := uw_t3 121 rfl rfl
theorem mw_603 : (Jvm.Cond.instanceMethod ({ cls := "MixerStation$History", name := "forgetOldest", desc := "()V" } : Jvm.MethodName)) ∈ UW := uw_t3 123 rfl rfl
theorem mw_604 : (Jvm.Cond.code ({ cls := "MixerStation$History", name := "forgetOldest", desc := "()V" } : Jvm.MethodName) prog_2_method_5_code (3 : Nat) (Option.none : Option Jvm.ClassFile.FieldType)) ∈ UW := uw_t3 124 rfl rfl
theorem mw_605 : (Jvm.Cond.methodLink "MixerStation$History" (25 : Nat) ({ cls := "MixerStation$State", name := "copyFrom", desc := "(LMixerStation$State;)V" } : Jvm.MethodName)) ∈ UW := uw_t3 125 rfl rfl
theorem mw_606 : (Jvm.Cond.methodLink "MixerStation" (228 : Nat) ({ cls := "MixerStation$State", name := "buildRoom", desc := "(IIII)V" } : Jvm.MethodName)) ∈ UW := uw_t3 126 rfl rfl
theorem mw_607 : (Jvm.Cond.methodLink "MixerStationLaw" (143 : Nat) ({ cls := "MixerStationLaw", name := "setRoom", desc := "(LMixerStation;III[J)I" } : Jvm.MethodName)) ∈ UW := uw_t3 127 rfl rfl
theorem mw_608 : (Jvm.Cond.static ({ cls := "MixerStationLaw", name := "setRoom", desc := "(LMixerStation;III[J)I" } : Jvm.MethodName)) ∈ UW := uw_t3 128 rfl rfl
theorem mw_609 : (Jvm.Cond.codeWith ({ cls := "MixerStationLaw", name := "setRoom", desc := "(LMixerStation;III[J)I" } : Jvm.MethodName) method_12_code (6 : Nat) (Option.some Jvm.ClassFile.FieldType.int) [((0 : Nat), (12 : Nat), (15 : Nat), (31 : Nat)), ((0 : Nat), (12 : Nat), (19 : Nat), (13 : Nat))]) ∈ UW := uw_t3 129 rfl rfl
theorem mw_610 : (Jvm.Cond.methodLink "MixerStationLaw" (46 : Nat) ({ cls := "MixerStation", name := "setRoom", desc := "(III)I" } : Jvm.MethodName)) ∈ UW := uw_t3 130 rfl rfl
theorem mw_611 : (Jvm.Cond.instanceMethod ({ cls := "MixerStation", name := "setRoom", desc := "(III)I" } : Jvm.MethodName)) ∈ UW := uw_t3 131 rfl rfl
theorem mw_612 : (Jvm.Cond.selects "MixerStation" ({ cls := "MixerStation", name := "setRoom", desc := "(III)I" } : Jvm.MethodName) ({ cls := "MixerStation", name := "setRoom", desc := "(III)I" } : Jvm.MethodName)) ∈ UW := uw_t3 132 rfl rfl
theorem mw_613 : (Jvm.Cond.code ({ cls := "MixerStation", name := "setRoom", desc := "(III)I" } : Jvm.MethodName) prog_1_method_13_code (4 : Nat) (Option.some Jvm.ClassFile.FieldType.int)) ∈ UW := uw_t3 133 rfl rfl
theorem mw_614 : (Jvm.Cond.methodLink "MixerStation" (232 : Nat) ({ cls := "MixerStation", name := "roomNumberAllowed", desc := "(II)Z" } : Jvm.MethodName)) ∈ UW := uw_t3 134 rfl rfl
theorem mw_615 : (Jvm.Cond.static ({ cls := "MixerStation", name := "roomNumberAllowed", desc := "(II)Z" } : Jvm.MethodName)) ∈ UW := uw_t3 135 rfl rfl
theorem mw_616 : (Jvm.Cond.code ({ cls := "MixerStation", name := "roomNumberAllowed", desc := "(II)Z" } : Jvm.MethodName) prog_1_method_38_code (2 : Nat) (Option.some Jvm.ClassFile.FieldType.boolean)) ∈ UW := uw_t3 136 rfl rfl
theorem mw_618 : (Jvm.Cond.methodLink "MixerStation" (238 : Nat) ({ cls := "MixerStation$Room", name := "change", desc := "(II)I" } : Jvm.MethodName)) ∈ UW := uw_t3 138 rfl rfl
theorem mw_619 : (Jvm.Cond.instanceMethod ({ cls := "MixerStation$Room", name := "change", desc := "(II)I" } : Jvm.MethodName)) ∈ UW := uw_t3 139 rfl rfl
theorem mw_620 : (Jvm.Cond.selects "MixerStation$Room" ({ cls := "MixerStation$Room", name := "change", desc := "(II)I" } : Jvm.MethodName) ({ cls := "MixerStation$Room", name := "change", desc := "(II)I" } : Jvm.MethodName)) ∈ UW := uw_t3 140 rfl rfl
theorem mw_621 : (Jvm.Cond.code ({ cls := "MixerStation$Room", name := "change", desc := "(II)I" } : Jvm.MethodName) prog_4_method_4_code (4 : Nat) (Option.some Jvm.ClassFile.FieldType.int)) ∈ UW := uw_t3 141 rfl rfl
theorem mw_622 : (Jvm.Cond.methodLink "MixerStationLaw" (147 : Nat) ({ cls := "MixerStationLaw", name := "window", desc := "(LMixerStation;IZ[J)I" } : Jvm.MethodName)) ∈ UW := uw_t3 142 rfl rfl
theorem mw_623 : (Jvm.Cond.static ({ cls := "MixerStationLaw", name := "window", desc := "(LMixerStation;IZ[J)I" } : Jvm.MethodName)) ∈ UW := uw_t3 143 rfl rfl
theorem mw_624 : (Jvm.Cond.codeWith ({ cls := "MixerStationLaw", name := "window", desc := "(LMixerStation;IZ[J)I" } : Jvm.MethodName) method_13_code (5 : Nat) (Option.some Jvm.ClassFile.FieldType.int) [((0 : Nat), (10 : Nat), (13 : Nat), (31 : Nat))]) ∈ UW := uw_t3 144 rfl rfl
theorem mw_625 : (Jvm.Cond.methodLink "MixerStationLaw" (50 : Nat) ({ cls := "MixerStation", name := "window", desc := "(IZ)I" } : Jvm.MethodName)) ∈ UW := uw_t3 145 rfl rfl
theorem mw_626 : (Jvm.Cond.instanceMethod ({ cls := "MixerStation", name := "window", desc := "(IZ)I" } : Jvm.MethodName)) ∈ UW := uw_t3 146 rfl rfl
theorem mw_627 : (Jvm.Cond.selects "MixerStation" ({ cls := "MixerStation", name := "window", desc := "(IZ)I" } : Jvm.MethodName) ({ cls := "MixerStation", name := "window", desc := "(IZ)I" } : Jvm.MethodName)) ∈ UW := uw_t3 147 rfl rfl
theorem mw_628 : (Jvm.Cond.code ({ cls := "MixerStation", name := "window", desc := "(IZ)I" } : Jvm.MethodName) prog_1_method_14_code (3 : Nat) (Option.some Jvm.ClassFile.FieldType.int)) ∈ UW := uw_t3 148 rfl rfl
theorem mw_629 : (Jvm.Cond.methodLink "MixerStation" (241 : Nat) ({ cls := "MixerStation$State", name := "openWindows", desc := "()I" } : Jvm.MethodName)) ∈ UW := uw_t3 149 rfl rfl
theorem mw_630 : (Jvm.Cond.instanceMethod ({ cls := "MixerStation$State", name := "openWindows", desc := "()I" } : Jvm.MethodName)) ∈ UW := uw_t3 150 rfl rfl
theorem mw_631 : (Jvm.Cond.selects "MixerStation$State" ({ cls := "MixerStation$State", name := "openWindows", desc := "()I" } : Jvm.MethodName) ({ cls := "MixerStation$State", name := "openWindows", desc := "()I" } : Jvm.MethodName)) ∈ UW := uw_t3 151 rfl rfl
theorem mw_632 : (Jvm.Cond.code ({ cls := "MixerStation$State", name := "openWindows", desc := "()I" } : Jvm.MethodName) prog_5_method_16_code (3 : Nat) (Option.some Jvm.ClassFile.FieldType.int)) ∈ UW := uw_t3 152 rfl rfl
theorem mw_633 : (Jvm.Cond.methodLink "MixerStationLaw" (151 : Nat) ({ cls := "MixerStationLaw", name := "set", desc := "(LMixerStation;II[J)I" } : Jvm.MethodName)) ∈ UW := uw_t3 153 rfl rfl
theorem mw_634 : (Jvm.Cond.static ({ cls := "MixerStationLaw", name := "set", desc := "(LMixerStation;II[J)I" } : Jvm.MethodName)) ∈ UW := uw_t3 154 rfl rfl
theorem mw_635 : (Jvm.Cond.codeWith ({ cls := "MixerStationLaw", name := "set", desc := "(LMixerStation;II[J)I" } : Jvm.MethodName) method_14_code (5 : Nat) (Option.some Jvm.ClassFile.FieldType.int) [((0 : Nat), (10 : Nat), (13 : Nat), (13 : Nat))]) ∈ UW := uw_t3 155 rfl rfl
theorem mw_636 : (Jvm.Cond.methodLink "MixerStationLaw" (54 : Nat) ({ cls := "MixerStation", name := "set", desc := "(II)I" } : Jvm.MethodName)) ∈ UW := uw_t3 156 rfl rfl
theorem mw_637 : (Jvm.Cond.instanceMethod ({ cls := "MixerStation", name := "set", desc := "(II)I" } : Jvm.MethodName)) ∈ UW := uw_t3 157 rfl rfl
theorem mw_638 : (Jvm.Cond.selects "MixerStation" ({ cls := "MixerStation", name := "set", desc := "(II)I" } : Jvm.MethodName) ({ cls := "MixerStation", name := "set", desc := "(II)I" } : Jvm.MethodName)) ∈ UW := uw_t3 158 rfl rfl
theorem mw_639 : (Jvm.Cond.code ({ cls := "MixerStation", name := "set", desc := "(II)I" } : Jvm.MethodName) prog_1_method_15_code (4 : Nat) (Option.some Jvm.ClassFile.FieldType.int)) ∈ UW := uw_t3 159 rfl rfl
theorem mw_640 : (Jvm.Cond.methodLink "MixerStation" (244 : Nat) ({ cls := "MixerStation", name := "settingAllowed", desc := "(II)Z" } : Jvm.MethodName)) ∈ UW := uw_t3 160 rfl rfl
theorem mw_641 : (Jvm.Cond.static ({ cls := "MixerStation", name := "settingAllowed", desc := "(II)Z" } : Jvm.MethodName)) ∈ UW := uw_t3 161 rfl rfl
theorem mw_642 : (Jvm.Cond.code ({ cls := "MixerStation", name := "settingAllowed", desc := "(II)Z" } : Jvm.MethodName) prog_1_method_32_code (2 : Nat) (Option.some Jvm.ClassFile.FieldType.boolean)) ∈ UW := uw_t3 162 rfl rfl
theorem mw_643 : (Jvm.Cond.methodLink "MixerStation" (298 : Nat) ({ cls := "MixerStation", name := "lowestSetting", desc := "(I)I" } : Jvm.MethodName)) ∈ UW := uw_t3 163 rfl rfl
theorem mw_644 : (Jvm.Cond.methodLink "MixerStation" (301 : Nat) ({ cls := "MixerStation", name := "highestSetting", desc := "(I)I" } : Jvm.MethodName)) ∈ UW := uw_t3 164 rfl rfl
theorem mw_646 : (Jvm.Cond.methodLink "MixerStation" (249 : Nat) ({ cls := "MixerStation$State", name := "changeSetting", desc := "(II)V" } : Jvm.MethodName)) ∈ UW := uw_t3 166 rfl rfl
theorem mw_647 : (Jvm.Cond.methodLink "MixerStationLaw" (154 : Nat) ({ cls := "MixerStationLaw", name := "outside", desc := "(LMixerStation;I[J)I" } : Jvm.MethodName)) ∈ UW := uw_t3 167 rfl rfl
theorem mw_648 : (Jvm.Cond.static ({ cls := "MixerStationLaw", name := "outside", desc := "(LMixerStation;I[J)I" } : Jvm.MethodName)) ∈ UW := uw_t3 168 rfl rfl
theorem mw_649 : (Jvm.Cond.codeWith ({ cls := "MixerStationLaw", name := "outside", desc := "(LMixerStation;I[J)I" } : Jvm.MethodName) method_15_code (4 : Nat) (Option.some Jvm.ClassFile.FieldType.int) [((0 : Nat), (9 : Nat), (12 : Nat), (13 : Nat))]) ∈ UW := uw_t3 169 rfl rfl
theorem mw_650 : (Jvm.Cond.methodLink "MixerStationLaw" (57 : Nat) ({ cls := "MixerStation", name := "outside", desc := "(I)I" } : Jvm.MethodName)) ∈ UW := uw_t3 170 rfl rfl
theorem mw_651 : (Jvm.Cond.instanceMethod ({ cls := "MixerStation", name := "outside", desc := "(I)I" } : Jvm.MethodName)) ∈ UW := uw_t3 171 rfl rfl
theorem mw_652 : (Jvm.Cond.selects "MixerStation" ({ cls := "MixerStation", name := "outside", desc := "(I)I" } : Jvm.MethodName) ({ cls := "MixerStation", name := "outside", desc := "(I)I" } : Jvm.MethodName)) ∈ UW := uw_t3 172 rfl rfl
theorem mw_653 : (Jvm.Cond.code ({ cls := "MixerStation", name := "outside", desc := "(I)I" } : Jvm.MethodName) prog_1_method_16_code (3 : Nat) (Option.some Jvm.ClassFile.FieldType.int)) ∈ UW := uw_t3 173 rfl rfl
theorem mw_654 : (Jvm.Cond.methodLink "MixerStation" (253 : Nat) ({ cls := "MixerStation", name := "outsideAllowed", desc := "(I)Z" } : Jvm.MethodName)) ∈ UW := uw_t3 174 rfl rfl
theorem mw_655 : (Jvm.Cond.static ({ cls := "MixerStation", name := "outsideAllowed", desc := "(I)Z" } : Jvm.MethodName)) ∈ UW := uw_t3 175 rfl rfl
theorem mw_656 : (Jvm.Cond.code ({ cls := "MixerStation", name := "outsideAllowed", desc := "(I)Z" } : Jvm.MethodName) prog_1_method_33_code (1 : Nat) (Option.some Jvm.ClassFile.FieldType.boolean)) ∈ UW := uw_t3 176 rfl rfl
theorem mw_658 : (Jvm.Cond.methodLink "MixerStationLaw" (157 : Nat) ({ cls := "MixerStationLaw", name := "pass", desc := "(LMixerStation;I[J)I" } : Jvm.MethodName)) ∈ UW := uw_t3 178 rfl rfl
theorem mw_659 : (Jvm.Cond.static ({ cls := "MixerStationLaw", name := "pass", desc := "(LMixerStation;I[J)I" } : Jvm.MethodName)) ∈ UW := uw_t3 179 rfl rfl
theorem mw_660 : (Jvm.Cond.codeWith ({ cls := "MixerStationLaw", name := "pass", desc := "(LMixerStation;I[J)I" } : Jvm.MethodName) method_16_code (4 : Nat) (Option.some Jvm.ClassFile.FieldType.int) [((0 : Nat), (9 : Nat), (12 : Nat), (13 : Nat))]) ∈ UW := uw_t3 180 rfl rfl
theorem mw_661 : (Jvm.Cond.methodLink "MixerStationLaw" (60 : Nat) ({ cls := "MixerStation", name := "pass", desc := "(I)I" } : Jvm.MethodName)) ∈ UW := uw_t3 181 rfl rfl
theorem mw_662 : (Jvm.Cond.instanceMethod ({ cls := "MixerStation", name := "pass", desc := "(I)I" } : Jvm.MethodName)) ∈ UW := uw_t3 182 rfl rfl
theorem mw_663 : (Jvm.Cond.selects "MixerStation" ({ cls := "MixerStation", name := "pass", desc := "(I)I" } : Jvm.MethodName) ({ cls := "MixerStation", name := "pass", desc := "(I)I" } : Jvm.MethodName)) ∈ UW := uw_t3 183 rfl rfl
theorem mw_664 : (Jvm.Cond.code ({ cls := "MixerStation", name := "pass", desc := "(I)I" } : Jvm.MethodName) prog_1_method_17_code (3 : Nat) (Option.some Jvm.ClassFile.FieldType.int)) ∈ UW := uw_t3 184 rfl rfl
theorem mw_665 : (Jvm.Cond.methodLink "MixerStation" (258 : Nat) ({ cls := "MixerStation", name := "passAllowed", desc := "(I)Z" } : Jvm.MethodName)) ∈ UW := uw_t3 185 rfl rfl
theorem mw_666 : (Jvm.Cond.static ({ cls := "MixerStation", name := "passAllowed", desc := "(I)Z" } : Jvm.MethodName)) ∈ UW := uw_t3 186 rfl rfl
theorem mw_667 : (Jvm.Cond.code ({ cls := "MixerStation", name := "passAllowed", desc := "(I)Z" } : Jvm.MethodName) prog_1_method_34_code (1 : Nat) (Option.some Jvm.ClassFile.FieldType.boolean)) ∈ UW := uw_t3 187 rfl rfl
theorem mw_669 : (Jvm.Cond.methodLink "MixerStation" (263 : Nat) ({ cls := "MixerStation$State", name := "advance", desc := "(I)V" } : Jvm.MethodName)) ∈ UW := uw_t3 189 rfl rfl
theorem mw_670 : (Jvm.Cond.instanceMethod ({ cls := "MixerStation$State", name := "advance", desc := "(I)V" } : Jvm.MethodName)) ∈ UW := uw_t3 190 rfl rfl
theorem mw_671 : (Jvm.Cond.selects "MixerStation$State" ({ cls := "MixerStation$State", name := "advance", desc := "(I)V" } : Jvm.MethodName) ({ cls := "MixerStation$State", name := "advance", desc := "(I)V" } : Jvm.MethodName)) ∈ UW := uw_t3 191 rfl rfl
theorem mw_672 : (Jvm.Cond.code ({ cls := "MixerStation$State", name := "advance", desc := "(I)V" } : Jvm.MethodName) prog_5_method_21_code (3 : Nat) (Option.none : Option Jvm.ClassFile.FieldType)) ∈ UW := uw_t3 192 rfl rfl
theorem mw_673 : (Jvm.Cond.methodLink "MixerStation$State" (128 : Nat) ({ cls := "MixerStation$State", name := "turnSeason", desc := "()V" } : Jvm.MethodName)) ∈ UW := uw_t3 193 rfl rfl
theorem mw_674 : (Jvm.Cond.methodLink "MixerStation$State" (131 : Nat) ({ cls := "MixerStation$State", name := "runBoiler", desc := "()V" } : Jvm.MethodName)) ∈ UW := uw_t3 194 rfl rfl
theorem mw_675 : (Jvm.Cond.methodLink "MixerStation$State" (134 : Nat) ({ cls := "MixerStation$State", name := "moveValve", desc := "()V" } : Jvm.MethodName)) ∈ UW := uw_t3 195 rfl rfl
theorem mw_676 : (Jvm.Cond.methodLink "MixerStation$State" (137 : Nat) ({ cls := "MixerStation$State", name := "mix", desc := "()V" } : Jvm.MethodName)) ∈ UW := uw_t3 196 rfl rfl
theorem mw_678 : (Jvm.Cond.instanceMethod ({ cls := "MixerStation$State", name := "mix", desc := "()V" } : Jvm.MethodName)) ∈ UW := uw_t3 198 rfl rfl
theorem mw_679 : (Jvm.Cond.code ({ cls := "MixerStation$State", name := "mix", desc := "()V" } : Jvm.MethodName) prog_5_method_29_code (2 : Nat) (Option.none : Option Jvm.ClassFile.FieldType)) ∈ UW := uw_t3 199 rfl rfl
theorem mw_680 : (Jvm.Cond.methodLink "MixerStation$State" (140 : Nat) ({ cls := "MixerStation$State", name := "heatRooms", desc := "()V" } : Jvm.MethodName)) ∈ UW := uw_t3 200 rfl rfl
theorem mw_682 : (Jvm.Cond.instanceMethod ({ cls := "MixerStation$State", name := "heatRooms", desc := "()V" } : Jvm.MethodName)) ∈ UW := uw_t3 202 rfl rfl
theorem mw_683 : (Jvm.Cond.code ({ cls := "MixerStation$State", name := "heatRooms", desc := "()V" } : Jvm.MethodName) prog_5_method_30_code (4 : Nat) (Option.none : Option Jvm.ClassFile.FieldType)) ∈ UW := uw_t3 203 rfl rfl
theorem mw_684 : (Jvm.Cond.methodLink "MixerStation$State" (143 : Nat) ({ cls := "MixerStation$State", name := "leakRooms", desc := "()V" } : Jvm.MethodName)) ∈ UW := uw_t3 204 rfl rfl
theorem mw_686 : (Jvm.Cond.instanceMethod ({ cls := "MixerStation$State", name := "leakRooms", desc := "()V" } : Jvm.MethodName)) ∈ UW := uw_t3 206 rfl rfl
theorem mw_687 : (Jvm.Cond.code ({ cls := "MixerStation$State", name := "leakRooms", desc := "()V" } : Jvm.MethodName) prog_5_method_31_code (4 : Nat) (Option.none : Option Jvm.ClassFile.FieldType)) ∈ UW := uw_t3 207 rfl rfl
theorem mw_688 : (Jvm.Cond.methodLink "MixerStation$State" (146 : Nat) ({ cls := "MixerStation$State", name := "judgeRooms", desc := "()V" } : Jvm.MethodName)) ∈ UW := uw_t3 208 rfl rfl
theorem mw_690 : (Jvm.Cond.instanceMethod ({ cls := "MixerStation$State", name := "judgeRooms", desc := "()V" } : Jvm.MethodName)) ∈ UW := uw_t3 210 rfl rfl
theorem mw_691 : (Jvm.Cond.code ({ cls := "MixerStation$State", name := "judgeRooms", desc := "()V" } : Jvm.MethodName) prog_5_method_32_code (2 : Nat) (Option.none : Option Jvm.ClassFile.FieldType)) ∈ UW := uw_t3 211 rfl rfl
theorem mw_692 : (Jvm.Cond.methodLink "MixerStation$State" (175 : Nat) ({ cls := "MixerStation$Room", name := "judge", desc := "(I)V" } : Jvm.MethodName)) ∈ UW := uw_t3 212 rfl rfl
theorem mw_693 : (Jvm.Cond.instanceMethod ({ cls := "MixerStation$Room", name := "judge", desc := "(I)V" } : Jvm.MethodName)) ∈ UW := uw_t3 213 rfl rfl
theorem mw_694 : (Jvm.Cond.selects "MixerStation$Room" ({ cls := "MixerStation$Room", name := "judge", desc := "(I)V" } : Jvm.MethodName) ({ cls := "MixerStation$Room", name := "judge", desc := "(I)V" } : Jvm.MethodName)) ∈ UW := uw_t3 214 rfl rfl
theorem mw_695 : (Jvm.Cond.code ({ cls := "MixerStation$Room", name := "judge", desc := "(I)V" } : Jvm.MethodName) prog_4_method_5_code (2 : Nat) (Option.none : Option Jvm.ClassFile.FieldType)) ∈ UW := uw_t3 215 rfl rfl
theorem mw_696 : (Jvm.Cond.methodLink "MixerStationLaw" (160 : Nat) ({ cls := "MixerStationLaw", name := "undo", desc := "(LMixerStation;[J)I" } : Jvm.MethodName)) ∈ UW := uw_t3 216 rfl rfl
theorem mw_697 : (Jvm.Cond.static ({ cls := "MixerStationLaw", name := "undo", desc := "(LMixerStation;[J)I" } : Jvm.MethodName)) ∈ UW := uw_t3 217 rfl rfl
theorem mw_698 : (Jvm.Cond.codeWith ({ cls := "MixerStationLaw", name := "undo", desc := "(LMixerStation;[J)I" } : Jvm.MethodName) method_17_code (3 : Nat) (Option.some Jvm.ClassFile.FieldType.int) [((0 : Nat), (8 : Nat), (11 : Nat), (15 : Nat))]) ∈ UW := uw_t3 218 rfl rfl
theorem mw_699 : (Jvm.Cond.methodLink "MixerStationLaw" (63 : Nat) ({ cls := "MixerStation", name := "undo", desc := "()I" } : Jvm.MethodName)) ∈ UW := uw_t3 219 rfl rfl
theorem mw_700 : (Jvm.Cond.instanceMethod ({ cls := "MixerStation", name := "undo", desc := "()I" } : Jvm.MethodName)) ∈ UW := uw_t3 220 rfl rfl
theorem mw_701 : (Jvm.Cond.selects "MixerStation" ({ cls := "MixerStation", name := "undo", desc := "()I" } : Jvm.MethodName) ({ cls := "MixerStation", name := "undo", desc := "()I" } : Jvm.MethodName)) ∈ UW := uw_t3 221 rfl rfl
theorem mw_702 : (Jvm.Cond.code ({ cls := "MixerStation", name := "undo", desc := "()I" } : Jvm.MethodName) prog_1_method_18_code (1 : Nat) (Option.some Jvm.ClassFile.FieldType.int)) ∈ UW := uw_t3 222 rfl rfl
theorem mw_703 : (Jvm.Cond.methodLink "MixerStation" (267 : Nat) ({ cls := "MixerStation$History", name := "isEmpty", desc := "()Z" } : Jvm.MethodName)) ∈ UW := uw_t3 223 rfl rfl
theorem mw_704 : (Jvm.Cond.instanceMethod ({ cls := "MixerStation$History", name := "isEmpty", desc := "()Z" } : Jvm.MethodName)) ∈ UW := uw_t3 224 rfl rfl
theorem mw_705 : (Jvm.Cond.selects "MixerStation$History" ({ cls := "MixerStation$History", name := "isEmpty", desc := "()Z" } : Jvm.MethodName) ({ cls := "MixerStation$History", name := "isEmpty", desc := "()Z" } : Jvm.MethodName)) ∈ UW := uw_t3 225 rfl rfl
theorem mw_706 : (Jvm.Cond.code ({ cls := "MixerStation$History", name := "isEmpty", desc := "()Z" } : Jvm.MethodName) prog_2_method_2_code (1 : Nat) (Option.some Jvm.ClassFile.FieldType.boolean)) ∈ UW := uw_t3 226 rfl rfl
theorem mw_708 : (Jvm.Cond.methodLink "MixerStation" (272 : Nat) ({ cls := "MixerStation$History", name := "takeBackInto", desc := "(LMixerStation$State;)V" } : Jvm.MethodName)) ∈ UW := uw_t3 228 rfl rfl
theorem mw_709 : (Jvm.Cond.instanceMethod ({ cls := "MixerStation$History", name := "takeBackInto", desc := "(LMixerStation$State;)V" } : Jvm.MethodName)) ∈ UW := uw_t3 229 rfl rfl
theorem mw_710 : (Jvm.Cond.selects "MixerStation$History" ({ cls := "MixerStation$History", name := "takeBackInto", desc := "(LMixerStation$State;)V" } : Jvm.MethodName) ({ cls := "MixerStation$History", name := "takeBackInto", desc := "(LMixerStation$State;)V" } : Jvm.MethodName)) ∈ UW := uw_t3 230 rfl rfl
theorem mw_711 : (Jvm.Cond.code ({ cls := "MixerStation$History", name := "takeBackInto", desc := "(LMixerStation$State;)V" } : Jvm.MethodName) prog_2_method_6_code (3 : Nat) (Option.none : Option Jvm.ClassFile.FieldType)) ∈ UW := uw_t3 231 rfl rfl
theorem mw_712 : (Jvm.Cond.methodLink "MixerStationLaw" (163 : Nat) ({ cls := "MixerStationLaw", name := "ahead", desc := "(LMixerStation;II[J)I" } : Jvm.MethodName)) ∈ UW := uw_t3 232 rfl rfl
theorem mw_713 : (Jvm.Cond.static ({ cls := "MixerStationLaw", name := "ahead", desc := "(LMixerStation;II[J)I" } : Jvm.MethodName)) ∈ UW := uw_t3 233 rfl rfl
theorem mw_714 : (Jvm.Cond.codeWith ({ cls := "MixerStationLaw", name := "ahead", desc := "(LMixerStation;II[J)I" } : Jvm.MethodName) method_18_code (5 : Nat) (Option.some Jvm.ClassFile.FieldType.int) [((0 : Nat), (10 : Nat), (13 : Nat), (31 : Nat)), ((0 : Nat), (10 : Nat), (17 : Nat), (13 : Nat))]) ∈ UW := uw_t3 234 rfl rfl
theorem mw_715 : (Jvm.Cond.methodLink "MixerStationLaw" (66 : Nat) ({ cls := "MixerStation", name := "ahead", desc := "(II)I" } : Jvm.MethodName)) ∈ UW := uw_t3 235 rfl rfl
theorem mw_716 : (Jvm.Cond.instanceMethod ({ cls := "MixerStation", name := "ahead", desc := "(II)I" } : Jvm.MethodName)) ∈ UW := uw_t3 236 rfl rfl
theorem mw_717 : (Jvm.Cond.selects "MixerStation" ({ cls := "MixerStation", name := "ahead", desc := "(II)I" } : Jvm.MethodName) ({ cls := "MixerStation", name := "ahead", desc := "(II)I" } : Jvm.MethodName)) ∈ UW := uw_t3 237 rfl rfl
theorem mw_718 : (Jvm.Cond.code ({ cls := "MixerStation", name := "ahead", desc := "(II)I" } : Jvm.MethodName) prog_1_method_19_code (3 : Nat) (Option.some Jvm.ClassFile.FieldType.int)) ∈ UW := uw_t3 238 rfl rfl
theorem mw_720 : (Jvm.Cond.methodLink "MixerStationLaw" (166 : Nat) ({ cls := "MixerStationLaw", name := "minutesTo", desc := "(LMixerStation;I[J)I" } : Jvm.MethodName)) ∈ UW := uw_t4 0 rfl rfl
theorem mw_721 : (Jvm.Cond.static ({ cls := "MixerStationLaw", name := "minutesTo", desc := "(LMixerStation;I[J)I" } : Jvm.MethodName)) ∈ UW := uw_t4 1 rfl rfl
theorem mw_722 : (Jvm.Cond.codeWith ({ cls := "MixerStationLaw", name := "minutesTo", desc := "(LMixerStation;I[J)I" } : Jvm.MethodName) method_19_code (4 : Nat) (Option.some Jvm.ClassFile.FieldType.int) [((0 : Nat), (9 : Nat), (12 : Nat), (31 : Nat))]) ∈ UW := uw_t4 2 rfl rfl
theorem mw_723 : (Jvm.Cond.methodLink "MixerStationLaw" (69 : Nat) ({ cls := "MixerStation", name := "minutesTo", desc := "(I)I" } : Jvm.MethodName)) ∈ UW := uw_t4 3 rfl rfl
theorem mw_724 : (Jvm.Cond.instanceMethod ({ cls := "MixerStation", name := "minutesTo", desc := "(I)I" } : Jvm.MethodName)) ∈ UW := uw_t4 4 rfl rfl
theorem mw_725 : (Jvm.Cond.selects "MixerStation" ({ cls := "MixerStation", name := "minutesTo", desc := "(I)I" } : Jvm.MethodName) ({ cls := "MixerStation", name := "minutesTo", desc := "(I)I" } : Jvm.MethodName)) ∈ UW := uw_t4 5 rfl rfl
theorem mw_726 : (Jvm.Cond.code ({ cls := "MixerStation", name := "minutesTo", desc := "(I)I" } : Jvm.MethodName) prog_1_method_20_code (3 : Nat) (Option.some Jvm.ClassFile.FieldType.int)) ∈ UW := uw_t4 6 rfl rfl
theorem mw_727 : (Jvm.Cond.methodLink "MixerStation" (278 : Nat) ({ cls := "MixerStation$State", name := "isAsWarmAsWanted", desc := "(I)Z" } : Jvm.MethodName)) ∈ UW := uw_t4 7 rfl rfl
theorem mw_728 : (Jvm.Cond.instanceMethod ({ cls := "MixerStation$State", name := "isAsWarmAsWanted", desc := "(I)Z" } : Jvm.MethodName)) ∈ UW := uw_t4 8 rfl rfl
theorem mw_729 : (Jvm.Cond.selects "MixerStation$State" ({ cls := "MixerStation$State", name := "isAsWarmAsWanted", desc := "(I)Z" } : Jvm.MethodName) ({ cls := "MixerStation$State", name := "isAsWarmAsWanted", desc := "(I)Z" } : Jvm.MethodName)) ∈ UW := uw_t4 9 rfl rfl
theorem mw_730 : (Jvm.Cond.code ({ cls := "MixerStation$State", name := "isAsWarmAsWanted", desc := "(I)Z" } : Jvm.MethodName) prog_5_method_18_code (2 : Nat) (Option.some Jvm.ClassFile.FieldType.boolean)) ∈ UW := uw_t4 10 rfl rfl
theorem mw_731 : (Jvm.Cond.methodLink "MixerStationLaw" (177 : Nat) ({ cls := "MixerStationLaw", name := "bestSlope", desc := "(LMixerStation;I[J)I" } : Jvm.MethodName)) ∈ UW := uw_t4 11 rfl rfl
theorem mw_732 : (Jvm.Cond.static ({ cls := "MixerStationLaw", name := "bestSlope", desc := "(LMixerStation;I[J)I" } : Jvm.MethodName)) ∈ UW := uw_t4 12 rfl rfl
theorem mw_733 : (Jvm.Cond.codeWith ({ cls := "MixerStationLaw", name := "bestSlope", desc := "(LMixerStation;I[J)I" } : Jvm.MethodName) method_20_code (4 : Nat) (Option.some Jvm.ClassFile.FieldType.int) [((0 : Nat), (9 : Nat), (12 : Nat), (13 : Nat))]) ∈ UW := uw_t4 13 rfl rfl
theorem mw_734 : (Jvm.Cond.methodLink "MixerStationLaw" (72 : Nat) ({ cls := "MixerStation", name := "bestSlope", desc := "(I)I" } : Jvm.MethodName)) ∈ UW := uw_t4 14 rfl rfl
theorem mw_735 : (Jvm.Cond.instanceMethod ({ cls := "MixerStation", name := "bestSlope", desc := "(I)I" } : Jvm.MethodName)) ∈ UW := uw_t4 15 rfl rfl
theorem mw_736 : (Jvm.Cond.selects "MixerStation" ({ cls := "MixerStation", name := "bestSlope", desc := "(I)I" } : Jvm.MethodName) ({ cls := "MixerStation", name := "bestSlope", desc := "(I)I" } : Jvm.MethodName)) ∈ UW := uw_t4 16 rfl rfl
theorem mw_737 : (Jvm.Cond.code ({ cls := "MixerStation", name := "bestSlope", desc := "(I)I" } : Jvm.MethodName) prog_1_method_23_code (6 : Nat) (Option.some Jvm.ClassFile.FieldType.int)) ∈ UW := uw_t4 17 rfl rfl
theorem mw_739 : (Jvm.Cond.methodLink "MixerStationLaw" (180 : Nat) ({ cls := "MixerStationLaw", name := "leastPower", desc := "(LMixerStation;I[J)I" } : Jvm.MethodName)) ∈ UW := uw_t4 19 rfl rfl
theorem mw_740 : (Jvm.Cond.static ({ cls := "MixerStationLaw", name := "leastPower", desc := "(LMixerStation;I[J)I" } : Jvm.MethodName)) ∈ UW := uw_t4 20 rfl rfl
theorem mw_741 : (Jvm.Cond.codeWith ({ cls := "MixerStationLaw", name := "leastPower", desc := "(LMixerStation;I[J)I" } : Jvm.MethodName) method_21_code (4 : Nat) (Option.some Jvm.ClassFile.FieldType.int) [((0 : Nat), (9 : Nat), (12 : Nat), (13 : Nat))]) ∈ UW := uw_t4 21 rfl rfl
theorem mw_742 : (Jvm.Cond.methodLink "MixerStationLaw" (75 : Nat) ({ cls := "MixerStation", name := "leastPower", desc := "(I)I" } : Jvm.MethodName)) ∈ UW := uw_t4 22 rfl rfl
theorem mw_743 : (Jvm.Cond.instanceMethod ({ cls := "MixerStation", name := "leastPower", desc := "(I)I" } : Jvm.MethodName)) ∈ UW := uw_t4 23 rfl rfl
theorem mw_744 : (Jvm.Cond.selects "MixerStation" ({ cls := "MixerStation", name := "leastPower", desc := "(I)I" } : Jvm.MethodName) ({ cls := "MixerStation", name := "leastPower", desc := "(I)I" } : Jvm.MethodName)) ∈ UW := uw_t4 24 rfl rfl
theorem mw_745 : (Jvm.Cond.code ({ cls := "MixerStation", name := "leastPower", desc := "(I)I" } : Jvm.MethodName) prog_1_method_24_code (3 : Nat) (Option.some Jvm.ClassFile.FieldType.int)) ∈ UW := uw_t4 25 rfl rfl
theorem mw_746 : (Jvm.Cond.methodLink "MixerStation" (304 : Nat) ({ cls := "MixerStation", name := "allRoomsGetWarm", desc := "(LMixerStation$State;I)Z" } : Jvm.MethodName)) ∈ UW := uw_t4 26 rfl rfl
theorem mw_747 : (Jvm.Cond.static ({ cls := "MixerStation", name := "allRoomsGetWarm", desc := "(LMixerStation$State;I)Z" } : Jvm.MethodName)) ∈ UW := uw_t4 27 rfl rfl
theorem mw_748 : (Jvm.Cond.code ({ cls := "MixerStation", name := "allRoomsGetWarm", desc := "(LMixerStation$State;I)Z" } : Jvm.MethodName) prog_1_method_39_code (5 : Nat) (Option.some Jvm.ClassFile.FieldType.boolean)) ∈ UW := uw_t4 28 rfl rfl
theorem mw_749 : (Jvm.Cond.methodLink "MixerStation" (348 : Nat) ({ cls := "MixerStation$State", name := "warmRooms", desc := "()I" } : Jvm.MethodName)) ∈ UW := uw_t4 29 rfl rfl
theorem mw_750 : (Jvm.Cond.instanceMethod ({ cls := "MixerStation$State", name := "warmRooms", desc := "()I" } : Jvm.MethodName)) ∈ UW := uw_t4 30 rfl rfl
theorem mw_751 : (Jvm.Cond.selects "MixerStation$State" ({ cls := "MixerStation$State", name := "warmRooms", desc := "()I" } : Jvm.MethodName) ({ cls := "MixerStation$State", name := "warmRooms", desc := "()I" } : Jvm.MethodName)) ∈ UW := uw_t4 31 rfl rfl
theorem mw_752 : (Jvm.Cond.code ({ cls := "MixerStation$State", name := "warmRooms", desc := "()I" } : Jvm.MethodName) prog_5_method_19_code (3 : Nat) (Option.some Jvm.ClassFile.FieldType.int)) ∈ UW := uw_t4 32 rfl rfl
theorem mw_753 : (Jvm.Cond.methodLink "MixerStation$State" (119 : Nat) ({ cls := "MixerStation$State", name := "isAsWarmAsWanted", desc := "(I)Z" } : Jvm.MethodName)) ∈ UW := uw_t4 33 rfl rfl
theorem mw_754 : (Jvm.Cond.methodLink "MixerStationLaw" (183 : Nat) ({ cls := "MixerStationLaw", name := "heatFor", desc := "(LMixerStation;I[J)I" } : Jvm.MethodName)) ∈ UW := uw_t4 34 rfl rfl
theorem mw_755 : (Jvm.Cond.static ({ cls := "MixerStationLaw", name := "heatFor", desc := "(LMixerStation;I[J)I" } : Jvm.MethodName)) ∈ UW := uw_t4 35 rfl rfl
theorem mw_756 : (Jvm.Cond.codeWith ({ cls := "MixerStationLaw", name := "heatFor", desc := "(LMixerStation;I[J)I" } : Jvm.MethodName) method_22_code (4 : Nat) (Option.some Jvm.ClassFile.FieldType.int) [((0 : Nat), (9 : Nat), (12 : Nat), (13 : Nat))]) ∈ UW := uw_t4 36 rfl rfl
theorem mw_757 : (Jvm.Cond.methodLink "MixerStationLaw" (78 : Nat) ({ cls := "MixerStation", name := "heatFor", desc := "(I)I" } : Jvm.MethodName)) ∈ UW := uw_t4 37 rfl rfl
theorem mw_758 : (Jvm.Cond.instanceMethod ({ cls := "MixerStation", name := "heatFor", desc := "(I)I" } : Jvm.MethodName)) ∈ UW := uw_t4 38 rfl rfl
theorem mw_759 : (Jvm.Cond.selects "MixerStation" ({ cls := "MixerStation", name := "heatFor", desc := "(I)I" } : Jvm.MethodName) ({ cls := "MixerStation", name := "heatFor", desc := "(I)I" } : Jvm.MethodName)) ∈ UW := uw_t4 39 rfl rfl
theorem mw_760 : (Jvm.Cond.code ({ cls := "MixerStation", name := "heatFor", desc := "(I)I" } : Jvm.MethodName) prog_1_method_25_code (2 : Nat) (Option.some Jvm.ClassFile.FieldType.int)) ∈ UW := uw_t4 40 rfl rfl
theorem mw_761 : (Jvm.Cond.methodLink "MixerStation" (308 : Nat) ({ cls := "MixerStation$State", name := "heatMade", desc := "()I" } : Jvm.MethodName)) ∈ UW := uw_t4 41 rfl rfl
theorem mw_762 : (Jvm.Cond.instanceMethod ({ cls := "MixerStation$State", name := "heatMade", desc := "()I" } : Jvm.MethodName)) ∈ UW := uw_t4 42 rfl rfl
theorem mw_763 : (Jvm.Cond.selects "MixerStation$State" ({ cls := "MixerStation$State", name := "heatMade", desc := "()I" } : Jvm.MethodName) ({ cls := "MixerStation$State", name := "heatMade", desc := "()I" } : Jvm.MethodName)) ∈ UW := uw_t4 43 rfl rfl
theorem mw_764 : (Jvm.Cond.code ({ cls := "MixerStation$State", name := "heatMade", desc := "()I" } : Jvm.MethodName) prog_5_method_17_code (1 : Nat) (Option.some Jvm.ClassFile.FieldType.int)) ∈ UW := uw_t4 44 rfl rfl
theorem mw_765 : (Jvm.Cond.methodLink "MixerStation$State" (109 : Nat) ({ cls := "MixerStation$Ledger", name := "sumBetween", desc := "(II)I" } : Jvm.MethodName)) ∈ UW := uw_t4 45 rfl rfl
theorem mw_766 : (Jvm.Cond.methodLink "MixerStationLaw" (188 : Nat) ({ cls := "MixerStationLaw", name := "runScript", desc := "(LMixerStation;IJ[J)I" } : Jvm.MethodName)) ∈ UW := uw_t4 46 rfl rfl
theorem mw_767 : (Jvm.Cond.static ({ cls := "MixerStationLaw", name := "runScript", desc := "(LMixerStation;IJ[J)I" } : Jvm.MethodName)) ∈ UW := uw_t4 47 rfl rfl
theorem mw_768 : (Jvm.Cond.codeWith ({ cls := "MixerStationLaw", name := "runScript", desc := "(LMixerStation;IJ[J)I" } : Jvm.MethodName) method_23_code (6 : Nat) (Option.some Jvm.ClassFile.FieldType.int) [((0 : Nat), (11 : Nat), (14 : Nat), (13 : Nat))]) ∈ UW := uw_t4 48 rfl rfl
theorem mw_769 : (Jvm.Cond.methodLink "MixerStationLaw" (81 : Nat) ({ cls := "MixerStation", name := "runScript", desc := "(IJ)I" } : Jvm.MethodName)) ∈ UW := uw_t4 49 rfl rfl
theorem mw_770 : (Jvm.Cond.instanceMethod ({ cls := "MixerStation", name := "runScript", desc := "(IJ)I" } : Jvm.MethodName)) ∈ UW := uw_t4 50 rfl rfl
theorem mw_771 : (Jvm.Cond.selects "MixerStation" ({ cls := "MixerStation", name := "runScript", desc := "(IJ)I" } : Jvm.MethodName) ({ cls := "MixerStation", name := "runScript", desc := "(IJ)I" } : Jvm.MethodName)) ∈ UW := uw_t4 51 rfl rfl
theorem mw_772 : (Jvm.Cond.code ({ cls := "MixerStation", name := "runScript", desc := "(IJ)I" } : Jvm.MethodName) prog_1_method_26_code (5 : Nat) (Option.some Jvm.ClassFile.FieldType.int)) ∈ UW := uw_t4 52 rfl rfl
theorem mw_774 : (Jvm.Cond.methodLink "MixerStation" (313 : Nat) ({ cls := "MixerStation", name := "longestScript", desc := "(I)J" } : Jvm.MethodName)) ∈ UW := uw_t4 54 rfl rfl
theorem mw_775 : (Jvm.Cond.static ({ cls := "MixerStation", name := "longestScript", desc := "(I)J" } : Jvm.MethodName)) ∈ UW := uw_t4 55 rfl rfl
theorem mw_776 : (Jvm.Cond.code ({ cls := "MixerStation", name := "longestScript", desc := "(I)J" } : Jvm.MethodName) prog_1_method_40_code (4 : Nat) (Option.some Jvm.ClassFile.FieldType.long)) ∈ UW := uw_t4 56 rfl rfl
theorem mw_777 : (Jvm.Cond.constantLong "MixerStation" (351 : Nat) (10000 : Int64)) ∈ UW := uw_t4 57 rfl rfl
theorem mw_779 : (Jvm.Cond.methodLink "MixerStation" (319 : Nat) ({ cls := "MixerStation", name := "groupAt", desc := "(IJI)I" } : Jvm.MethodName)) ∈ UW := uw_t4 59 rfl rfl
theorem mw_780 : (Jvm.Cond.static ({ cls := "MixerStation", name := "groupAt", desc := "(IJI)I" } : Jvm.MethodName)) ∈ UW := uw_t4 60 rfl rfl
theorem mw_781 : (Jvm.Cond.code ({ cls := "MixerStation", name := "groupAt", desc := "(IJI)I" } : Jvm.MethodName) prog_1_method_41_code (7 : Nat) (Option.some Jvm.ClassFile.FieldType.int)) ∈ UW := uw_t4 61 rfl rfl
theorem mw_782 : (Jvm.Cond.methodLink "MixerStation" (323 : Nat) ({ cls := "MixerStation", name := "commandSucceeds", desc := "(LMixerStation$State;I)Z" } : Jvm.MethodName)) ∈ UW := uw_t4 62 rfl rfl
theorem mw_783 : (Jvm.Cond.static ({ cls := "MixerStation", name := "commandSucceeds", desc := "(LMixerStation$State;I)Z" } : Jvm.MethodName)) ∈ UW := uw_t4 63 rfl rfl
theorem mw_784 : (Jvm.Cond.code ({ cls := "MixerStation", name := "commandSucceeds", desc := "(LMixerStation$State;I)Z" } : Jvm.MethodName) prog_1_method_42_code (5 : Nat) (Option.some Jvm.ClassFile.FieldType.boolean)) ∈ UW := uw_t4 64 rfl rfl
theorem mw_785 : (Jvm.Cond.methodLink "MixerStation" (353 : Nat) ({ cls := "MixerStation", name := "outsideCommand", desc := "(LMixerStation$State;I)Z" } : Jvm.MethodName)) ∈ UW := uw_t4 65 rfl rfl
theorem mw_786 : (Jvm.Cond.static ({ cls := "MixerStation", name := "outsideCommand", desc := "(LMixerStation$State;I)Z" } : Jvm.MethodName)) ∈ UW := uw_t4 66 rfl rfl
theorem mw_787 : (Jvm.Cond.code ({ cls := "MixerStation", name := "outsideCommand", desc := "(LMixerStation$State;I)Z" } : Jvm.MethodName) prog_1_method_43_code (2 : Nat) (Option.some Jvm.ClassFile.FieldType.boolean)) ∈ UW := uw_t4 67 rfl rfl
theorem mw_788 : (Jvm.Cond.methodLink "MixerStation" (356 : Nat) ({ cls := "MixerStation", name := "settingCommand", desc := "(LMixerStation$State;II)Z" } : Jvm.MethodName)) ∈ UW := uw_t4 68 rfl rfl
theorem mw_789 : (Jvm.Cond.static ({ cls := "MixerStation", name := "settingCommand", desc := "(LMixerStation$State;II)Z" } : Jvm.MethodName)) ∈ UW := uw_t4 69 rfl rfl
theorem mw_790 : (Jvm.Cond.code ({ cls := "MixerStation", name := "settingCommand", desc := "(LMixerStation$State;II)Z" } : Jvm.MethodName) prog_1_method_44_code (3 : Nat) (Option.some Jvm.ClassFile.FieldType.boolean)) ∈ UW := uw_t4 70 rfl rfl
theorem mw_791 : (Jvm.Cond.methodLink "MixerStation" (360 : Nat) ({ cls := "MixerStation", name := "windowCommand", desc := "(LMixerStation$State;IZ)Z" } : Jvm.MethodName)) ∈ UW := uw_t4 71 rfl rfl
theorem mw_792 : (Jvm.Cond.static ({ cls := "MixerStation", name := "windowCommand", desc := "(LMixerStation$State;IZ)Z" } : Jvm.MethodName)) ∈ UW := uw_t4 72 rfl rfl
theorem mw_793 : (Jvm.Cond.code ({ cls := "MixerStation", name := "windowCommand", desc := "(LMixerStation$State;IZ)Z" } : Jvm.MethodName) prog_1_method_45_code (3 : Nat) (Option.some Jvm.ClassFile.FieldType.boolean)) ∈ UW := uw_t4 73 rfl rfl
theorem mw_794 : (Jvm.Cond.methodLink "MixerStation" (332 : Nat) ({ cls := "MixerStation$State", name := "turnWindow", desc := "(IZ)V" } : Jvm.MethodName)) ∈ UW := uw_t4 74 rfl rfl
theorem mw_795 : (Jvm.Cond.instanceMethod ({ cls := "MixerStation$State", name := "turnWindow", desc := "(IZ)V" } : Jvm.MethodName)) ∈ UW := uw_t4 75 rfl rfl
theorem mw_796 : (Jvm.Cond.selects "MixerStation$State" ({ cls := "MixerStation$State", name := "turnWindow", desc := "(IZ)V" } : Jvm.MethodName) ({ cls := "MixerStation$State", name := "turnWindow", desc := "(IZ)V" } : Jvm.MethodName)) ∈ UW := uw_t4 76 rfl rfl
theorem mw_797 : (Jvm.Cond.code ({ cls := "MixerStation$State", name := "turnWindow", desc := "(IZ)V" } : Jvm.MethodName) prog_5_method_9_code (3 : Nat) (Option.none : Option Jvm.ClassFile.FieldType)) ∈ UW := uw_t4 77 rfl rfl
theorem mw_798 : (Jvm.Cond.methodLink "MixerStation" (364 : Nat) ({ cls := "MixerStation", name := "wantedCommand", desc := "(LMixerStation$State;II)Z" } : Jvm.MethodName)) ∈ UW := uw_t4 78 rfl rfl
theorem mw_799 : (Jvm.Cond.static ({ cls := "MixerStation", name := "wantedCommand", desc := "(LMixerStation$State;II)Z" } : Jvm.MethodName)) ∈ UW := uw_t4 79 rfl rfl
theorem mw_800 : (Jvm.Cond.code ({ cls := "MixerStation", name := "wantedCommand", desc := "(LMixerStation$State;II)Z" } : Jvm.MethodName) prog_1_method_46_code (3 : Nat) (Option.some Jvm.ClassFile.FieldType.boolean)) ∈ UW := uw_t4 80 rfl rfl
theorem mw_801 : (Jvm.Cond.methodLink "MixerStationLaw" (192 : Nat) ({ cls := "MixerStationLaw", name := "simulate", desc := "(LMixerStation;JI[J)I" } : Jvm.MethodName)) ∈ UW := uw_t4 81 rfl rfl
theorem mw_802 : (Jvm.Cond.static ({ cls := "MixerStationLaw", name := "simulate", desc := "(LMixerStation;JI[J)I" } : Jvm.MethodName)) ∈ UW := uw_t4 82 rfl rfl
theorem mw_803 : (Jvm.Cond.codeWith ({ cls := "MixerStationLaw", name := "simulate", desc := "(LMixerStation;JI[J)I" } : Jvm.MethodName) method_24_code (6 : Nat) (Option.some Jvm.ClassFile.FieldType.int) [((0 : Nat), (10 : Nat), (13 : Nat), (13 : Nat))]) ∈ UW := uw_t4 83 rfl rfl
theorem mw_804 : (Jvm.Cond.methodLink "MixerStationLaw" (85 : Nat) ({ cls := "MixerStation", name := "simulate", desc := "(JI)J" } : Jvm.MethodName)) ∈ UW := uw_t4 84 rfl rfl
theorem mw_805 : (Jvm.Cond.instanceMethod ({ cls := "MixerStation", name := "simulate", desc := "(JI)J" } : Jvm.MethodName)) ∈ UW := uw_t4 85 rfl rfl
theorem mw_806 : (Jvm.Cond.selects "MixerStation" ({ cls := "MixerStation", name := "simulate", desc := "(JI)J" } : Jvm.MethodName) ({ cls := "MixerStation", name := "simulate", desc := "(JI)J" } : Jvm.MethodName)) ∈ UW := uw_t4 86 rfl rfl
theorem mw_807 : (Jvm.Cond.code ({ cls := "MixerStation", name := "simulate", desc := "(JI)J" } : Jvm.MethodName) prog_1_method_27_code (8 : Nat) (Option.some Jvm.ClassFile.FieldType.long)) ∈ UW := uw_t4 87 rfl rfl
theorem mw_809 : (Jvm.Cond.constantLong "MixerStation" (328 : Nat) (6364136223846793005 : Int64)) ∈ UW := uw_t4 89 rfl rfl
theorem mw_810 : (Jvm.Cond.constantLong "MixerStation" (330 : Nat) (1442695040888963407 : Int64)) ∈ UW := uw_t4 90 rfl rfl
theorem mw_811 : (Jvm.Cond.constantLong "MixerStation" (336 : Nat) (1000000 : Int64)) ∈ UW := uw_t4 91 rfl rfl
theorem mw_812 : (Jvm.Cond.methodLink "MixerStationLaw" (196 : Nat) ({ cls := "MixerStationLaw", name := "save", desc := "(LMixerStation;I[J)I" } : Jvm.MethodName)) ∈ UW := uw_t4 92 rfl rfl
theorem mw_813 : (Jvm.Cond.static ({ cls := "MixerStationLaw", name := "save", desc := "(LMixerStation;I[J)I" } : Jvm.MethodName)) ∈ UW := uw_t4 93 rfl rfl
theorem mw_814 : (Jvm.Cond.codeWith ({ cls := "MixerStationLaw", name := "save", desc := "(LMixerStation;I[J)I" } : Jvm.MethodName) method_25_code (4 : Nat) (Option.some Jvm.ClassFile.FieldType.int) [((0 : Nat), (9 : Nat), (12 : Nat), (31 : Nat))]) ∈ UW := uw_t4 94 rfl rfl
theorem mw_815 : (Jvm.Cond.methodLink "MixerStationLaw" (89 : Nat) ({ cls := "MixerStation", name := "save", desc := "(I)I" } : Jvm.MethodName)) ∈ UW := uw_t4 95 rfl rfl
theorem mw_816 : (Jvm.Cond.instanceMethod ({ cls := "MixerStation", name := "save", desc := "(I)I" } : Jvm.MethodName)) ∈ UW := uw_t4 96 rfl rfl
theorem mw_817 : (Jvm.Cond.selects "MixerStation" ({ cls := "MixerStation", name := "save", desc := "(I)I" } : Jvm.MethodName) ({ cls := "MixerStation", name := "save", desc := "(I)I" } : Jvm.MethodName)) ∈ UW := uw_t4 97 rfl rfl
theorem mw_818 : (Jvm.Cond.code ({ cls := "MixerStation", name := "save", desc := "(I)I" } : Jvm.MethodName) prog_1_method_28_code (2 : Nat) (Option.some Jvm.ClassFile.FieldType.int)) ∈ UW := uw_t4 98 rfl rfl
theorem mw_820 : (Jvm.Cond.methodLink "MixerStationLaw" (199 : Nat) ({ cls := "MixerStationLaw", name := "restore", desc := "(LMixerStation;I[J)I" } : Jvm.MethodName)) ∈ UW := uw_t4 100 rfl rfl
theorem mw_821 : (Jvm.Cond.static ({ cls := "MixerStationLaw", name := "restore", desc := "(LMixerStation;I[J)I" } : Jvm.MethodName)) ∈ UW := uw_t4 101 rfl rfl
theorem mw_822 : (Jvm.Cond.codeWith ({ cls := "MixerStationLaw", name := "restore", desc := "(LMixerStation;I[J)I" } : Jvm.MethodName) method_26_code (4 : Nat) (Option.some Jvm.ClassFile.FieldType.int) [((0 : Nat), (9 : Nat), (12 : Nat), (31 : Nat)), ((0 : Nat), (9 : Nat), (15 : Nat), (15 : Nat))]) ∈ UW := uw_t4 102 rfl rfl
theorem mw_823 : (Jvm.Cond.methodLink "MixerStationLaw" (92 : Nat) ({ cls := "MixerStation", name := "restore", desc := "(I)I" } : Jvm.MethodName)) ∈ UW := uw_t4 103 rfl rfl
theorem mw_824 : (Jvm.Cond.instanceMethod ({ cls := "MixerStation", name := "restore", desc := "(I)I" } : Jvm.MethodName)) ∈ UW := uw_t4 104 rfl rfl
theorem mw_825 : (Jvm.Cond.selects "MixerStation" ({ cls := "MixerStation", name := "restore", desc := "(I)I" } : Jvm.MethodName) ({ cls := "MixerStation", name := "restore", desc := "(I)I" } : Jvm.MethodName)) ∈ UW := uw_t4 105 rfl rfl
theorem mw_826 : (Jvm.Cond.code ({ cls := "MixerStation", name := "restore", desc := "(I)I" } : Jvm.MethodName) prog_1_method_29_code (2 : Nat) (Option.some Jvm.ClassFile.FieldType.int)) ∈ UW := uw_t4 106 rfl rfl
theorem mw_828 : (Jvm.Cond.classLink "MixerStationLaw" (96 : Nat) "MixerStationModel") ∈ UW := uw_t4 108 rfl rfl
theorem mw_829 : (Jvm.Cond.instantiable "MixerStationModel" (12 : Nat)) ∈ UW := uw_t4 109 rfl rfl
theorem mw_830 : (Jvm.Cond.methodLink "MixerStationLaw" (98 : Nat) ({ cls := "MixerStationModel", name := "<init>", desc := "()V" } : Jvm.MethodName)) ∈ UW := uw_t4 110 rfl rfl
theorem mw_831 : (Jvm.Cond.instanceMethod ({ cls := "MixerStationModel", name := "<init>", desc := "()V" } : Jvm.MethodName)) ∈ UW := uw_t4 111 rfl rfl
theorem mw_832 : (Jvm.Cond.code ({ cls := "MixerStationModel", name := "<init>", desc := "()V" } : Jvm.MethodName) prog_8_method_1_code (1 : Nat) (Option.none : Option Jvm.ClassFile.FieldType)) ∈ UW := uw_t4 112 rfl rfl
theorem mw_833 : (Jvm.Cond.methodLink "MixerStationModel" (1 : Nat) ({ cls := "java/lang/Object", name := "<init>", desc := "()V" } : Jvm.MethodName)) ∈ UW := uw_t4 113 rfl rfl
theorem mw_834 : (Jvm.Cond.methodLink "MixerStationModel" (32 : Nat) ({ cls := "MixerStationModel", name := "clean", desc := "([I)V" } : Jvm.MethodName)) ∈ UW := uw_t4 114 rfl rfl
theorem mw_835 : (Jvm.Cond.static ({ cls := "MixerStationModel", name := "clean", desc := "([I)V" } : Jvm.MethodName)) ∈ UW := uw_t4 115 rfl rfl
theorem mw_836 : (Jvm.Cond.code ({ cls := "MixerStationModel", name := "clean", desc := "([I)V" } : Jvm.MethodName) prog_8_method_10_code (2 : Nat) (Option.none : Option Jvm.ClassFile.FieldType)) ∈ UW := uw_t4 116 rfl rfl
theorem mw_837 : (Jvm.Cond.fieldLink "MixerStationModel" (36 : Nat) "MixerStationModel" "refusal" "I") ∈ UW := uw_t4 117 rfl rfl
theorem mw_838 : (Jvm.Cond.fieldLink "MixerStationModel" (7 : Nat) "MixerStationModel" "script" "[I") ∈ UW := uw_t4 118 rfl rfl
theorem mw_839 : (Jvm.Cond.fieldLink "MixerStationModel" (118 : Nat) "MixerStationModel" "scriptSize" "I") ∈ UW := uw_t4 119 rfl rfl
theorem mw_840 : (Jvm.Cond.fieldLink "MixerStationModel" (125 : Nat) "MixerStationModel" "spot" "I") ∈ UW := uw_t4 120 rfl rfl
theorem mw_841 : (Jvm.Cond.fieldLink "MixerStationModel" (128 : Nat) "MixerStationModel" "isGood" "Z") ∈ UW := uw_t4 121 rfl rfl
theorem mw_842 : (Jvm.Cond.fieldLink "MixerStationModel" (13 : Nat) "MixerStationModel" "read" "[I") ∈ UW := uw_t4 122 rfl rfl
theorem mw_843 : (Jvm.Cond.fieldLink "MixerStationModel" (16 : Nat) "MixerStationModel" "now" "[I") ∈ UW := uw_t4 123 rfl rfl
theorem mw_844 : (Jvm.Cond.fieldLink "MixerStationModel" (19 : Nat) "MixerStationModel" "trial" "[I") ∈ UW := uw_t4 124 rfl rfl
theorem mw_845 : (Jvm.Cond.fieldLink "MixerStationModel" (22 : Nat) "MixerStationModel" "diary" "[I") ∈ UW := uw_t4 125 rfl rfl
theorem mw_846 : (Jvm.Cond.fieldLink "MixerStationModel" (42 : Nat) "MixerStationModel" "acts" "I") ∈ UW := uw_t4 126 rfl rfl
theorem mw_847 : (Jvm.Cond.fieldLink "MixerStationModel" (25 : Nat) "MixerStationModel" "kept" "[I") ∈ UW := uw_t4 127 rfl rfl
theorem mw_848 : (Jvm.Cond.fieldLink "MixerStationModel" (28 : Nat) "MixerStationModel" "isKept" "[Z") ∈ UW := uw_t4 128 rfl rfl
theorem mw_849 : (Jvm.Cond.lays "MixerStationModel" "MixerStationModel" "refusal" "I") ∈ UW := uw_t4 129 rfl rfl
theorem mw_851 : (Jvm.Cond.laysFinal "MixerStationModel" "MixerStationModel" "script" "[I") ∈ UW := uw_t4 131 rfl rfl
theorem mw_853 : (Jvm.Cond.lays "MixerStationModel" "MixerStationModel" "scriptSize" "I") ∈ UW := uw_t4 133 rfl rfl
theorem mw_855 : (Jvm.Cond.lays "MixerStationModel" "MixerStationModel" "spot" "I") ∈ UW := uw_t4 135 rfl rfl
theorem mw_857 : (Jvm.Cond.lays "MixerStationModel" "MixerStationModel" "isGood" "Z") ∈ UW := uw_t4 137 rfl rfl
theorem mw_859 : (Jvm.Cond.laysFinal "MixerStationModel" "MixerStationModel" "read" "[I") ∈ UW := uw_t4 139 rfl rfl
theorem mw_861 : (Jvm.Cond.laysFinal "MixerStationModel" "MixerStationModel" "now" "[I") ∈ UW := uw_t4 141 rfl rfl
theorem mw_863 : (Jvm.Cond.laysFinal "MixerStationModel" "MixerStationModel" "trial" "[I") ∈ UW := uw_t4 143 rfl rfl
theorem mw_865 : (Jvm.Cond.laysFinal "MixerStationModel" "MixerStationModel" "diary" "[I") ∈ UW := uw_t4 145 rfl rfl
theorem mw_867 : (Jvm.Cond.lays "MixerStationModel" "MixerStationModel" "acts" "I") ∈ UW := uw_t4 147 rfl rfl
theorem mw_869 : (Jvm.Cond.laysFinal "MixerStationModel" "MixerStationModel" "kept" "[I") ∈ UW := uw_t4 149 rfl rfl
theorem mw_871 : (Jvm.Cond.laysFinal "MixerStationModel" "MixerStationModel" "isKept" "[Z") ∈ UW := uw_t4 151 rfl rfl
theorem mw_874 : (Jvm.Cond.methodLink "MixerStationLaw" (105 : Nat) ({ cls := "MixerStationModel", name := "thrown", desc := "()I" } : Jvm.MethodName)) ∈ UW := uw_t4 154 rfl rfl
theorem mw_875 : (Jvm.Cond.instanceMethod ({ cls := "MixerStationModel", name := "thrown", desc := "()I" } : Jvm.MethodName)) ∈ UW := uw_t4 155 rfl rfl
theorem mw_876 : (Jvm.Cond.selects "MixerStationModel" ({ cls := "MixerStationModel", name := "thrown", desc := "()I" } : Jvm.MethodName) ({ cls := "MixerStationModel", name := "thrown", desc := "()I" } : Jvm.MethodName)) ∈ UW := uw_t4 156 rfl rfl
theorem mw_877 : (Jvm.Cond.code ({ cls := "MixerStationModel", name := "thrown", desc := "()I" } : Jvm.MethodName) prog_8_method_2_code (1 : Nat) (Option.some Jvm.ClassFile.FieldType.int)) ∈ UW := uw_t4 157 rfl rfl
theorem mw_878 : (Jvm.Cond.methodLink "MixerStationLaw" (104 : Nat) ({ cls := "MixerStationModel", name := "append", desc := "(I)I" } : Jvm.MethodName)) ∈ UW := uw_t4 158 rfl rfl
theorem mw_879 : (Jvm.Cond.instanceMethod ({ cls := "MixerStationModel", name := "append", desc := "(I)I" } : Jvm.MethodName)) ∈ UW := uw_t4 159 rfl rfl
theorem mw_880 : (Jvm.Cond.selects "MixerStationModel" ({ cls := "MixerStationModel", name := "append", desc := "(I)I" } : Jvm.MethodName) ({ cls := "MixerStationModel", name := "append", desc := "(I)I" } : Jvm.MethodName)) ∈ UW := uw_t4 160 rfl rfl
theorem mw_881 : (Jvm.Cond.code ({ cls := "MixerStationModel", name := "append", desc := "(I)I" } : Jvm.MethodName) prog_8_method_35_code (2 : Nat) (Option.some Jvm.ClassFile.FieldType.int)) ∈ UW := uw_t4 161 rfl rfl
theorem mw_882 : (Jvm.Cond.constantLong "MixerStationModel" (116 : Nat) (255 : Int64)) ∈ UW := uw_t4 162 rfl rfl
theorem mw_883 : (Jvm.Cond.methodLink "MixerStationModel" (49 : Nat) ({ cls := "MixerStationModel", name := "in", desc := "(JJJ)Z" } : Jvm.MethodName)) ∈ UW := uw_t4 163 rfl rfl
theorem mw_884 : (Jvm.Cond.static ({ cls := "MixerStationModel", name := "in", desc := "(JJJ)Z" } : Jvm.MethodName)) ∈ UW := uw_t4 164 rfl rfl
theorem mw_885 : (Jvm.Cond.code ({ cls := "MixerStationModel", name := "in", desc := "(JJJ)Z" } : Jvm.MethodName) prog_8_method_4_code (6 : Nat) (Option.some Jvm.ClassFile.FieldType.boolean)) ∈ UW := uw_t4 165 rfl rfl
theorem mw_886 : (Jvm.Cond.methodLink "MixerStationModel" (121 : Nat) ({ cls := "MixerStationModel", name := "refused", desc := "(I)Z" } : Jvm.MethodName)) ∈ UW := uw_t4 166 rfl rfl
theorem mw_888 : (Jvm.Cond.instanceMethod ({ cls := "MixerStationModel", name := "refused", desc := "(I)Z" } : Jvm.MethodName)) ∈ UW := uw_t4 168 rfl rfl
theorem mw_889 : (Jvm.Cond.code ({ cls := "MixerStationModel", name := "refused", desc := "(I)Z" } : Jvm.MethodName) prog_8_method_3_code (2 : Nat) (Option.some Jvm.ClassFile.FieldType.boolean)) ∈ UW := uw_t4 169 rfl rfl
theorem mw_890 : (Jvm.Cond.methodLink "MixerStationLaw" (111 : Nat) ({ cls := "MixerStationModel", name := "clearText", desc := "()I" } : Jvm.MethodName)) ∈ UW := uw_t4 170 rfl rfl
theorem mw_891 : (Jvm.Cond.instanceMethod ({ cls := "MixerStationModel", name := "clearText", desc := "()I" } : Jvm.MethodName)) ∈ UW := uw_t4 171 rfl rfl
theorem mw_892 : (Jvm.Cond.selects "MixerStationModel" ({ cls := "MixerStationModel", name := "clearText", desc := "()I" } : Jvm.MethodName) ({ cls := "MixerStationModel", name := "clearText", desc := "()I" } : Jvm.MethodName)) ∈ UW := uw_t4 172 rfl rfl
theorem mw_893 : (Jvm.Cond.code ({ cls := "MixerStationModel", name := "clearText", desc := "()I" } : Jvm.MethodName) prog_8_method_36_code (2 : Nat) (Option.some Jvm.ClassFile.FieldType.int)) ∈ UW := uw_t4 173 rfl rfl
theorem mw_894 : (Jvm.Cond.methodLink "MixerStationLaw" (115 : Nat) ({ cls := "MixerStationModel", name := "errorPosition", desc := "()I" } : Jvm.MethodName)) ∈ UW := uw_t4 174 rfl rfl
theorem mw_895 : (Jvm.Cond.instanceMethod ({ cls := "MixerStationModel", name := "errorPosition", desc := "()I" } : Jvm.MethodName)) ∈ UW := uw_t4 175 rfl rfl
theorem mw_896 : (Jvm.Cond.selects "MixerStationModel" ({ cls := "MixerStationModel", name := "errorPosition", desc := "()I" } : Jvm.MethodName) ({ cls := "MixerStationModel", name := "errorPosition", desc := "()I" } : Jvm.MethodName)) ∈ UW := uw_t4 176 rfl rfl
theorem mw_897 : (Jvm.Cond.code ({ cls := "MixerStationModel", name := "errorPosition", desc := "()I" } : Jvm.MethodName) prog_8_method_45_code (1 : Nat) (Option.some Jvm.ClassFile.FieldType.int)) ∈ UW := uw_t4 177 rfl rfl
theorem mw_898 : (Jvm.Cond.methodLink "MixerStationModel" (167 : Nat) ({ cls := "MixerStationModel", name := "readText", desc := "()I" } : Jvm.MethodName)) ∈ UW := uw_t4 178 rfl rfl
theorem mw_900 : (Jvm.Cond.instanceMethod ({ cls := "MixerStationModel", name := "readText", desc := "()I" } : Jvm.MethodName)) ∈ UW := uw_t4 180 rfl rfl
theorem mw_901 : (Jvm.Cond.code ({ cls := "MixerStationModel", name := "readText", desc := "()I" } : Jvm.MethodName) prog_8_method_44_code (4 : Nat) (Option.some Jvm.ClassFile.FieldType.int)) ∈ UW := uw_t4 181 rfl rfl
theorem mw_902 : (Jvm.Cond.methodLink "MixerStationModel" (148 : Nat) ({ cls := "MixerStationModel", name := "isNext", desc := "(I)Z" } : Jvm.MethodName)) ∈ UW := uw_t4 182 rfl rfl
theorem mw_904 : (Jvm.Cond.instanceMethod ({ cls := "MixerStationModel", name := "isNext", desc := "(I)Z" } : Jvm.MethodName)) ∈ UW := uw_t4 184 rfl rfl
theorem mw_905 : (Jvm.Cond.code ({ cls := "MixerStationModel", name := "isNext", desc := "(I)Z" } : Jvm.MethodName) prog_8_method_37_code (2 : Nat) (Option.some Jvm.ClassFile.FieldType.boolean)) ∈ UW := uw_t4 185 rfl rfl
theorem mw_906 : (Jvm.Cond.methodLink "MixerStationModel" (134 : Nat) ({ cls := "MixerStationModel", name := "accept", desc := "(Z)V" } : Jvm.MethodName)) ∈ UW := uw_t4 186 rfl rfl
theorem mw_908 : (Jvm.Cond.instanceMethod ({ cls := "MixerStationModel", name := "accept", desc := "(Z)V" } : Jvm.MethodName)) ∈ UW := uw_t4 188 rfl rfl
theorem mw_909 : (Jvm.Cond.code ({ cls := "MixerStationModel", name := "accept", desc := "(Z)V" } : Jvm.MethodName) prog_8_method_38_code (2 : Nat) (Option.none : Option Jvm.ClassFile.FieldType)) ∈ UW := uw_t4 189 rfl rfl
theorem mw_910 : (Jvm.Cond.methodLink "MixerStationModel" (138 : Nat) ({ cls := "MixerStationModel", name := "digit", desc := "(II)I" } : Jvm.MethodName)) ∈ UW := uw_t4 190 rfl rfl
theorem mw_912 : (Jvm.Cond.instanceMethod ({ cls := "MixerStationModel", name := "digit", desc := "(II)I" } : Jvm.MethodName)) ∈ UW := uw_t4 192 rfl rfl
theorem mw_913 : (Jvm.Cond.code ({ cls := "MixerStationModel", name := "digit", desc := "(II)I" } : Jvm.MethodName) prog_8_method_39_code (4 : Nat) (Option.some Jvm.ClassFile.FieldType.int)) ∈ UW := uw_t4 193 rfl rfl
theorem mw_914 : (Jvm.Cond.constant "MixerStationModel" (64 : Nat) (-99999 : Int32)) ∈ UW := uw_t4 194 rfl rfl
theorem mw_915 : (Jvm.Cond.constantLong "MixerStationModel" (132 : Nat) (9 : Int64)) ∈ UW := uw_t4 195 rfl rfl
theorem mw_916 : (Jvm.Cond.methodLink "MixerStationModel" (141 : Nat) ({ cls := "MixerStationModel", name := "two", desc := "(II)I" } : Jvm.MethodName)) ∈ UW := uw_t4 196 rfl rfl
theorem mw_918 : (Jvm.Cond.instanceMethod ({ cls := "MixerStationModel", name := "two", desc := "(II)I" } : Jvm.MethodName)) ∈ UW := uw_t4 198 rfl rfl
theorem mw_919 : (Jvm.Cond.code ({ cls := "MixerStationModel", name := "two", desc := "(II)I" } : Jvm.MethodName) prog_8_method_40_code (6 : Nat) (Option.some Jvm.ClassFile.FieldType.int)) ∈ UW := uw_t4 199 rfl rfl
theorem mw_920 : (Jvm.Cond.methodLink "MixerStationModel" (158 : Nat) ({ cls := "MixerStationModel", name := "readRoom", desc := "()V" } : Jvm.MethodName)) ∈ UW := uw_t4 200 rfl rfl
theorem mw_922 : (Jvm.Cond.instanceMethod ({ cls := "MixerStationModel", name := "readRoom", desc := "()V" } : Jvm.MethodName)) ∈ UW := uw_t4 202 rfl rfl
theorem mw_923 : (Jvm.Cond.code ({ cls := "MixerStationModel", name := "readRoom", desc := "()V" } : Jvm.MethodName) prog_8_method_41_code (5 : Nat) (Option.none : Option Jvm.ClassFile.FieldType)) ∈ UW := uw_t4 203 rfl rfl
theorem mw_924 : (Jvm.Cond.methodLink "MixerStationModel" (144 : Nat) ({ cls := "MixerStationModel", name := "addTo", desc := "([IIIII)V" } : Jvm.MethodName)) ∈ UW := uw_t4 204 rfl rfl
theorem mw_925 : (Jvm.Cond.static ({ cls := "MixerStationModel", name := "addTo", desc := "([IIIII)V" } : Jvm.MethodName)) ∈ UW := uw_t4 205 rfl rfl
theorem mw_926 : (Jvm.Cond.code ({ cls := "MixerStationModel", name := "addTo", desc := "([IIIII)V" } : Jvm.MethodName) prog_8_method_21_code (6 : Nat) (Option.none : Option Jvm.ClassFile.FieldType)) ∈ UW := uw_t4 206 rfl rfl
theorem mw_927 : (Jvm.Cond.methodLink "MixerStationModel" (53 : Nat) ({ cls := "MixerStationModel", name := "cell", desc := "(II)I" } : Jvm.MethodName)) ∈ UW := uw_t4 207 rfl rfl
theorem mw_928 : (Jvm.Cond.static ({ cls := "MixerStationModel", name := "cell", desc := "(II)I" } : Jvm.MethodName)) ∈ UW := uw_t4 208 rfl rfl
theorem mw_929 : (Jvm.Cond.code ({ cls := "MixerStationModel", name := "cell", desc := "(II)I" } : Jvm.MethodName) prog_8_method_13_code (2 : Nat) (Option.some Jvm.ClassFile.FieldType.int)) ∈ UW := uw_t4 209 rfl rfl
theorem mw_930 : (Jvm.Cond.methodLink "MixerStationModel" (69 : Nat) ({ cls := "MixerStationModel", name := "go", desc := "([IIII)V" } : Jvm.MethodName)) ∈ UW := uw_t4 210 rfl rfl
theorem mw_931 : (Jvm.Cond.static ({ cls := "MixerStationModel", name := "go", desc := "([IIII)V" } : Jvm.MethodName)) ∈ UW := uw_t4 211 rfl rfl
theorem mw_932 : (Jvm.Cond.code ({ cls := "MixerStationModel", name := "go", desc := "([IIII)V" } : Jvm.MethodName) prog_8_method_20_code (5 : Nat) (Option.none : Option Jvm.ClassFile.FieldType)) ∈ UW := uw_t4 212 rfl rfl
theorem mw_933 : (Jvm.Cond.methodLink "MixerStationModel" (65 : Nat) ({ cls := "MixerStationModel", name := "wayOf", desc := "([III)I" } : Jvm.MethodName)) ∈ UW := uw_t4 213 rfl rfl
theorem mw_934 : (Jvm.Cond.static ({ cls := "MixerStationModel", name := "wayOf", desc := "([III)I" } : Jvm.MethodName)) ∈ UW := uw_t4 214 rfl rfl
theorem mw_935 : (Jvm.Cond.code ({ cls := "MixerStationModel", name := "wayOf", desc := "([III)I" } : Jvm.MethodName) prog_8_method_18_code (5 : Nat) (Option.some Jvm.ClassFile.FieldType.int)) ∈ UW := uw_t4 215 rfl rfl
theorem mw_936 : (Jvm.Cond.methodLink "MixerStationModel" (161 : Nat) ({ cls := "MixerStationModel", name := "readOutside", desc := "()V" } : Jvm.MethodName)) ∈ UW := uw_t4 216 rfl rfl
theorem mw_938 : (Jvm.Cond.instanceMethod ({ cls := "MixerStationModel", name := "readOutside", desc := "()V" } : Jvm.MethodName)) ∈ UW := uw_t4 218 rfl rfl
theorem mw_939 : (Jvm.Cond.code ({ cls := "MixerStationModel", name := "readOutside", desc := "()V" } : Jvm.MethodName) prog_8_method_42_code (3 : Nat) (Option.none : Option Jvm.ClassFile.FieldType)) ∈ UW := uw_t4 219 rfl rfl
theorem mw_940 : (Jvm.Cond.methodLink "MixerStationModel" (164 : Nat) ({ cls := "MixerStationModel", name := "readSetting", desc := "()V" } : Jvm.MethodName)) ∈ UW := uw_t4 220 rfl rfl
theorem mw_942 : (Jvm.Cond.instanceMethod ({ cls := "MixerStationModel", name := "readSetting", desc := "()V" } : Jvm.MethodName)) ∈ UW := uw_t4 222 rfl rfl
theorem mw_943 : (Jvm.Cond.code ({ cls := "MixerStationModel", name := "readSetting", desc := "()V" } : Jvm.MethodName) prog_8_method_43_code (3 : Nat) (Option.none : Option Jvm.ClassFile.FieldType)) ∈ UW := uw_t4 223 rfl rfl
theorem mw_944 : (Jvm.Cond.methodLink "MixerStationModel" (151 : Nat) ({ cls := "MixerStationModel", name := "least", desc := "(I)I" } : Jvm.MethodName)) ∈ UW := uw_t4 224 rfl rfl
theorem mw_945 : (Jvm.Cond.static ({ cls := "MixerStationModel", name := "least", desc := "(I)I" } : Jvm.MethodName)) ∈ UW := uw_t4 225 rfl rfl
theorem mw_946 : (Jvm.Cond.code ({ cls := "MixerStationModel", name := "least", desc := "(I)I" } : Jvm.MethodName) prog_8_method_8_code (1 : Nat) (Option.some Jvm.ClassFile.FieldType.int)) ∈ UW := uw_t4 226 rfl rfl
theorem mw_947 : (Jvm.Cond.methodLink "MixerStationModel" (155 : Nat) ({ cls := "MixerStationModel", name := "most", desc := "(I)I" } : Jvm.MethodName)) ∈ UW := uw_t4 227 rfl rfl
theorem mw_948 : (Jvm.Cond.static ({ cls := "MixerStationModel", name := "most", desc := "(I)I" } : Jvm.MethodName)) ∈ UW := uw_t4 228 rfl rfl
theorem mw_949 : (Jvm.Cond.code ({ cls := "MixerStationModel", name := "most", desc := "(I)I" } : Jvm.MethodName) prog_8_method_9_code (1 : Nat) (Option.some Jvm.ClassFile.FieldType.int)) ∈ UW := uw_t4 229 rfl rfl
theorem mw_950 : (Jvm.Cond.methodLink "MixerStationLaw" (119 : Nat) ({ cls := "MixerStationModel", name := "load", desc := "()I" } : Jvm.MethodName)) ∈ UW := uw_t4 230 rfl rfl
theorem mw_951 : (Jvm.Cond.instanceMethod ({ cls := "MixerStationModel", name := "load", desc := "()I" } : Jvm.MethodName)) ∈ UW := uw_t4 231 rfl rfl
theorem mw_952 : (Jvm.Cond.selects "MixerStationModel" ({ cls := "MixerStationModel", name := "load", desc := "()I" } : Jvm.MethodName) ({ cls := "MixerStationModel", name := "load", desc := "()I" } : Jvm.MethodName)) ∈ UW := uw_t4 232 rfl rfl
theorem mw_953 : (Jvm.Cond.code ({ cls := "MixerStationModel", name := "load", desc := "()I" } : Jvm.MethodName) prog_8_method_46_code (1 : Nat) (Option.some Jvm.ClassFile.FieldType.int)) ∈ UW := uw_t4 233 rfl rfl
theorem mw_954 : (Jvm.Cond.methodLink "MixerStationModel" (45 : Nat) ({ cls := "MixerStationModel", name := "copy", desc := "([II[III)V" } : Jvm.MethodName)) ∈ UW := uw_t4 234 rfl rfl
theorem mw_955 : (Jvm.Cond.static ({ cls := "MixerStationModel", name := "copy", desc := "([II[III)V" } : Jvm.MethodName)) ∈ UW := uw_t4 235 rfl rfl
theorem mw_956 : (Jvm.Cond.code ({ cls := "MixerStationModel", name := "copy", desc := "([II[III)V" } : Jvm.MethodName) prog_8_method_5_code (6 : Nat) (Option.none : Option Jvm.ClassFile.FieldType)) ∈ UW := uw_t4 236 rfl rfl
theorem mw_957 : (Jvm.Cond.methodLink "MixerStationLaw" (122 : Nat) ({ cls := "MixerStationModel", name := "about", desc := "(I)I" } : Jvm.MethodName)) ∈ UW := uw_t4 237 rfl rfl
theorem mw_958 : (Jvm.Cond.instanceMethod ({ cls := "MixerStationModel", name := "about", desc := "(I)I" } : Jvm.MethodName)) ∈ UW := uw_t4 238 rfl rfl
theorem mw_959 : (Jvm.Cond.selects "MixerStationModel" ({ cls := "MixerStationModel", name := "about", desc := "(I)I" } : Jvm.MethodName) ({ cls := "MixerStationModel", name := "about", desc := "(I)I" } : Jvm.MethodName)) ∈ UW := uw_t4 239 rfl rfl
theorem mw_960 : (Jvm.Cond.code ({ cls := "MixerStationModel", name := "about", desc := "(I)I" } : Jvm.MethodName) prog_8_method_49_code (2 : Nat) (Option.some Jvm.ClassFile.FieldType.int)) ∈ UW := uw_t5 0 rfl rfl
theorem mw_961 : (Jvm.Cond.constantLong "MixerStationModel" (171 : Nat) (12 : Int64)) ∈ UW := uw_t5 1 rfl rfl
theorem mw_962 : (Jvm.Cond.methodLink "MixerStationModel" (80 : Nat) ({ cls := "MixerStationModel", name := "wish", desc := "([I)I" } : Jvm.MethodName)) ∈ UW := uw_t5 2 rfl rfl
theorem mw_963 : (Jvm.Cond.static ({ cls := "MixerStationModel", name := "wish", desc := "([I)I" } : Jvm.MethodName)) ∈ UW := uw_t5 3 rfl rfl
theorem mw_964 : (Jvm.Cond.code ({ cls := "MixerStationModel", name := "wish", desc := "([I)I" } : Jvm.MethodName) prog_8_method_22_code (2 : Nat) (Option.some Jvm.ClassFile.FieldType.int)) ∈ UW := uw_t5 4 rfl rfl
theorem mw_965 : (Jvm.Cond.methodLink "MixerStationModel" (173 : Nat) ({ cls := "MixerStationModel", name := "allHeat", desc := "([I)I" } : Jvm.MethodName)) ∈ UW := uw_t5 5 rfl rfl
theorem mw_966 : (Jvm.Cond.static ({ cls := "MixerStationModel", name := "allHeat", desc := "([I)I" } : Jvm.MethodName)) ∈ UW := uw_t5 6 rfl rfl
theorem mw_967 : (Jvm.Cond.code ({ cls := "MixerStationModel", name := "allHeat", desc := "([I)I" } : Jvm.MethodName) prog_8_method_47_code (3 : Nat) (Option.some Jvm.ClassFile.FieldType.int)) ∈ UW := uw_t5 7 rfl rfl
theorem mw_968 : (Jvm.Cond.methodLink "MixerStationModel" (176 : Nat) ({ cls := "MixerStationModel", name := "allOf", desc := "([II)I" } : Jvm.MethodName)) ∈ UW := uw_t5 8 rfl rfl
theorem mw_969 : (Jvm.Cond.static ({ cls := "MixerStationModel", name := "allOf", desc := "([II)I" } : Jvm.MethodName)) ∈ UW := uw_t5 9 rfl rfl
theorem mw_970 : (Jvm.Cond.code ({ cls := "MixerStationModel", name := "allOf", desc := "([II)I" } : Jvm.MethodName) prog_8_method_48_code (4 : Nat) (Option.some Jvm.ClassFile.FieldType.int)) ∈ UW := uw_t5 10 rfl rfl
theorem mw_971 : (Jvm.Cond.methodLink "MixerStationLaw" (125 : Nat) ({ cls := "MixerStationModel", name := "setting", desc := "(I)I" } : Jvm.MethodName)) ∈ UW := uw_t5 11 rfl rfl
theorem mw_972 : (Jvm.Cond.instanceMethod ({ cls := "MixerStationModel", name := "setting", desc := "(I)I" } : Jvm.MethodName)) ∈ UW := uw_t5 12 rfl rfl
theorem mw_973 : (Jvm.Cond.selects "MixerStationModel" ({ cls := "MixerStationModel", name := "setting", desc := "(I)I" } : Jvm.MethodName) ({ cls := "MixerStationModel", name := "setting", desc := "(I)I" } : Jvm.MethodName)) ∈ UW := uw_t5 13 rfl rfl
theorem mw_974 : (Jvm.Cond.code ({ cls := "MixerStationModel", name := "setting", desc := "(I)I" } : Jvm.MethodName) prog_8_method_50_code (2 : Nat) (Option.some Jvm.ClassFile.FieldType.int)) ∈ UW := uw_t5 14 rfl rfl
theorem mw_975 : (Jvm.Cond.constantLong "MixerStationModel" (179 : Nat) (8 : Int64)) ∈ UW := uw_t5 15 rfl rfl
theorem mw_976 : (Jvm.Cond.methodLink "MixerStationLaw" (129 : Nat) ({ cls := "MixerStationModel", name := "place", desc := "(II)I" } : Jvm.MethodName)) ∈ UW := uw_t5 16 rfl rfl
theorem mw_977 : (Jvm.Cond.instanceMethod ({ cls := "MixerStationModel", name := "place", desc := "(II)I" } : Jvm.MethodName)) ∈ UW := uw_t5 17 rfl rfl
theorem mw_978 : (Jvm.Cond.selects "MixerStationModel" ({ cls := "MixerStationModel", name := "place", desc := "(II)I" } : Jvm.MethodName) ({ cls := "MixerStationModel", name := "place", desc := "(II)I" } : Jvm.MethodName)) ∈ UW := uw_t5 18 rfl rfl
theorem mw_979 : (Jvm.Cond.code ({ cls := "MixerStationModel", name := "place", desc := "(II)I" } : Jvm.MethodName) prog_8_method_51_code (3 : Nat) (Option.some Jvm.ClassFile.FieldType.int)) ∈ UW := uw_t5 19 rfl rfl
theorem mw_980 : (Jvm.Cond.methodLink "MixerStationModel" (181 : Nat) ({ cls := "MixerStationModel", name := "isWarmPlace", desc := "(I)Z" } : Jvm.MethodName)) ∈ UW := uw_t5 20 rfl rfl
theorem mw_982 : (Jvm.Cond.instanceMethod ({ cls := "MixerStationModel", name := "isWarmPlace", desc := "(I)Z" } : Jvm.MethodName)) ∈ UW := uw_t5 22 rfl rfl
theorem mw_983 : (Jvm.Cond.code ({ cls := "MixerStationModel", name := "isWarmPlace", desc := "(I)Z" } : Jvm.MethodName) prog_8_method_15_code (2 : Nat) (Option.some Jvm.ClassFile.FieldType.boolean)) ∈ UW := uw_t5 23 rfl rfl
theorem mw_984 : (Jvm.Cond.constantLong "MixerStationModel" (184 : Nat) (2 : Int64)) ∈ UW := uw_t5 24 rfl rfl
theorem mw_985 : (Jvm.Cond.methodLink "MixerStationModel" (73 : Nat) ({ cls := "MixerStationModel", name := "degrees", desc := "([II)I" } : Jvm.MethodName)) ∈ UW := uw_t5 25 rfl rfl
theorem mw_986 : (Jvm.Cond.static ({ cls := "MixerStationModel", name := "degrees", desc := "([II)I" } : Jvm.MethodName)) ∈ UW := uw_t5 26 rfl rfl
theorem mw_987 : (Jvm.Cond.code ({ cls := "MixerStationModel", name := "degrees", desc := "([II)I" } : Jvm.MethodName) prog_8_method_17_code (2 : Nat) (Option.some Jvm.ClassFile.FieldType.int)) ∈ UW := uw_t5 27 rfl rfl
theorem mw_988 : (Jvm.Cond.methodLink "MixerStationModel" (57 : Nat) ({ cls := "MixerStationModel", name := "capacity", desc := "([II)I" } : Jvm.MethodName)) ∈ UW := uw_t5 28 rfl rfl
theorem mw_989 : (Jvm.Cond.static ({ cls := "MixerStationModel", name := "capacity", desc := "([II)I" } : Jvm.MethodName)) ∈ UW := uw_t5 29 rfl rfl
theorem mw_990 : (Jvm.Cond.code ({ cls := "MixerStationModel", name := "capacity", desc := "([II)I" } : Jvm.MethodName) prog_8_method_16_code (2 : Nat) (Option.some Jvm.ClassFile.FieldType.int)) ∈ UW := uw_t5 30 rfl rfl
theorem mw_991 : (Jvm.Cond.methodLink "MixerStationModel" (61 : Nat) ({ cls := "MixerStationModel", name := "down", desc := "(II)I" } : Jvm.MethodName)) ∈ UW := uw_t5 31 rfl rfl
theorem mw_992 : (Jvm.Cond.static ({ cls := "MixerStationModel", name := "down", desc := "(II)I" } : Jvm.MethodName)) ∈ UW := uw_t5 32 rfl rfl
theorem mw_993 : (Jvm.Cond.code ({ cls := "MixerStationModel", name := "down", desc := "(II)I" } : Jvm.MethodName) prog_8_method_7_code (3 : Nat) (Option.some Jvm.ClassFile.FieldType.int)) ∈ UW := uw_t5 33 rfl rfl
theorem mw_994 : (Jvm.Cond.methodLink "MixerStationLaw" (132 : Nat) ({ cls := "MixerStationModel", name := "room", desc := "(II)I" } : Jvm.MethodName)) ∈ UW := uw_t5 34 rfl rfl
theorem mw_995 : (Jvm.Cond.instanceMethod ({ cls := "MixerStationModel", name := "room", desc := "(II)I" } : Jvm.MethodName)) ∈ UW := uw_t5 35 rfl rfl
theorem mw_996 : (Jvm.Cond.selects "MixerStationModel" ({ cls := "MixerStationModel", name := "room", desc := "(II)I" } : Jvm.MethodName) ({ cls := "MixerStationModel", name := "room", desc := "(II)I" } : Jvm.MethodName)) ∈ UW := uw_t5 36 rfl rfl
theorem mw_997 : (Jvm.Cond.code ({ cls := "MixerStationModel", name := "room", desc := "(II)I" } : Jvm.MethodName) prog_8_method_52_code (3 : Nat) (Option.some Jvm.ClassFile.FieldType.int)) ∈ UW := uw_t5 37 rfl rfl
theorem mw_998 : (Jvm.Cond.methodLink "MixerStationModel" (186 : Nat) ({ cls := "MixerStationModel", name := "isRoom", desc := "(I)Z" } : Jvm.MethodName)) ∈ UW := uw_t5 38 rfl rfl
theorem mw_1000 : (Jvm.Cond.instanceMethod ({ cls := "MixerStationModel", name := "isRoom", desc := "(I)Z" } : Jvm.MethodName)) ∈ UW := uw_t5 40 rfl rfl
theorem mw_1001 : (Jvm.Cond.code ({ cls := "MixerStationModel", name := "isRoom", desc := "(I)Z" } : Jvm.MethodName) prog_8_method_14_code (2 : Nat) (Option.some Jvm.ClassFile.FieldType.boolean)) ∈ UW := uw_t5 41 rfl rfl
theorem mw_1002 : (Jvm.Cond.constantLong "MixerStationModel" (189 : Nat) (6 : Int64)) ∈ UW := uw_t5 42 rfl rfl
theorem mw_1003 : (Jvm.Cond.methodLink "MixerStationLaw" (135 : Nat) ({ cls := "MixerStationModel", name := "moved", desc := "(II)I" } : Jvm.MethodName)) ∈ UW := uw_t5 43 rfl rfl
theorem mw_1004 : (Jvm.Cond.instanceMethod ({ cls := "MixerStationModel", name := "moved", desc := "(II)I" } : Jvm.MethodName)) ∈ UW := uw_t5 44 rfl rfl
theorem mw_1005 : (Jvm.Cond.selects "MixerStationModel" ({ cls := "MixerStationModel", name := "moved", desc := "(II)I" } : Jvm.MethodName) ({ cls := "MixerStationModel", name := "moved", desc := "(II)I" } : Jvm.MethodName)) ∈ UW := uw_t5 45 rfl rfl
theorem mw_1006 : (Jvm.Cond.code ({ cls := "MixerStationModel", name := "moved", desc := "(II)I" } : Jvm.MethodName) prog_8_method_53_code (3 : Nat) (Option.some Jvm.ClassFile.FieldType.int)) ∈ UW := uw_t5 46 rfl rfl
theorem mw_1007 : (Jvm.Cond.methodLink "MixerStationModel" (191 : Nat) ({ cls := "MixerStationModel", name := "movedOf", desc := "([III)I" } : Jvm.MethodName)) ∈ UW := uw_t5 47 rfl rfl
theorem mw_1008 : (Jvm.Cond.static ({ cls := "MixerStationModel", name := "movedOf", desc := "([III)I" } : Jvm.MethodName)) ∈ UW := uw_t5 48 rfl rfl
theorem mw_1009 : (Jvm.Cond.code ({ cls := "MixerStationModel", name := "movedOf", desc := "([III)I" } : Jvm.MethodName) prog_8_method_19_code (4 : Nat) (Option.some Jvm.ClassFile.FieldType.int)) ∈ UW := uw_t5 49 rfl rfl
theorem mw_1010 : (Jvm.Cond.methodLink "MixerStationLaw" (138 : Nat) ({ cls := "MixerStationModel", name := "way", desc := "(II)I" } : Jvm.MethodName)) ∈ UW := uw_t5 50 rfl rfl
theorem mw_1011 : (Jvm.Cond.instanceMethod ({ cls := "MixerStationModel", name := "way", desc := "(II)I" } : Jvm.MethodName)) ∈ UW := uw_t5 51 rfl rfl
theorem mw_1012 : (Jvm.Cond.selects "MixerStationModel" ({ cls := "MixerStationModel", name := "way", desc := "(II)I" } : Jvm.MethodName) ({ cls := "MixerStationModel", name := "way", desc := "(II)I" } : Jvm.MethodName)) ∈ UW := uw_t5 52 rfl rfl
theorem mw_1013 : (Jvm.Cond.code ({ cls := "MixerStationModel", name := "way", desc := "(II)I" } : Jvm.MethodName) prog_8_method_54_code (4 : Nat) (Option.some Jvm.ClassFile.FieldType.int)) ∈ UW := uw_t5 53 rfl rfl
theorem mw_1014 : (Jvm.Cond.methodLink "MixerStationLaw" (142 : Nat) ({ cls := "MixerStationModel", name := "addRoom", desc := "(IIII)I" } : Jvm.MethodName)) ∈ UW := uw_t5 54 rfl rfl
theorem mw_1015 : (Jvm.Cond.instanceMethod ({ cls := "MixerStationModel", name := "addRoom", desc := "(IIII)I" } : Jvm.MethodName)) ∈ UW := uw_t5 55 rfl rfl
theorem mw_1016 : (Jvm.Cond.selects "MixerStationModel" ({ cls := "MixerStationModel", name := "addRoom", desc := "(IIII)I" } : Jvm.MethodName) ({ cls := "MixerStationModel", name := "addRoom", desc := "(IIII)I" } : Jvm.MethodName)) ∈ UW := uw_t5 56 rfl rfl
theorem mw_1017 : (Jvm.Cond.code ({ cls := "MixerStationModel", name := "addRoom", desc := "(IIII)I" } : Jvm.MethodName) prog_8_method_55_code (6 : Nat) (Option.some Jvm.ClassFile.FieldType.int)) ∈ UW := uw_t5 57 rfl rfl
theorem mw_1018 : (Jvm.Cond.constantLong "MixerStationModel" (40 : Nat) (10 : Int64)) ∈ UW := uw_t5 58 rfl rfl
theorem mw_1019 : (Jvm.Cond.constantLong "MixerStationModel" (194 : Nat) (25 : Int64)) ∈ UW := uw_t5 59 rfl rfl
theorem mw_1020 : (Jvm.Cond.methodLink "MixerStationModel" (196 : Nat) ({ cls := "MixerStationModel", name := "note", desc := "()V" } : Jvm.MethodName)) ∈ UW := uw_t5 60 rfl rfl
theorem mw_1022 : (Jvm.Cond.instanceMethod ({ cls := "MixerStationModel", name := "note", desc := "()V" } : Jvm.MethodName)) ∈ UW := uw_t5 62 rfl rfl
theorem mw_1023 : (Jvm.Cond.code ({ cls := "MixerStationModel", name := "note", desc := "()V" } : Jvm.MethodName) prog_8_method_11_code (1 : Nat) (Option.none : Option Jvm.ClassFile.FieldType)) ∈ UW := uw_t5 63 rfl rfl
theorem mw_1024 : (Jvm.Cond.methodLink "MixerStationLaw" (146 : Nat) ({ cls := "MixerStationModel", name := "setRoom", desc := "(III)I" } : Jvm.MethodName)) ∈ UW := uw_t5 64 rfl rfl
theorem mw_1025 : (Jvm.Cond.instanceMethod ({ cls := "MixerStationModel", name := "setRoom", desc := "(III)I" } : Jvm.MethodName)) ∈ UW := uw_t5 65 rfl rfl
theorem mw_1026 : (Jvm.Cond.selects "MixerStationModel" ({ cls := "MixerStationModel", name := "setRoom", desc := "(III)I" } : Jvm.MethodName) ({ cls := "MixerStationModel", name := "setRoom", desc := "(III)I" } : Jvm.MethodName)) ∈ UW := uw_t5 66 rfl rfl
theorem mw_1027 : (Jvm.Cond.code ({ cls := "MixerStationModel", name := "setRoom", desc := "(III)I" } : Jvm.MethodName) prog_8_method_56_code (6 : Nat) (Option.some Jvm.ClassFile.FieldType.int)) ∈ UW := uw_t5 67 rfl rfl
theorem mw_1028 : (Jvm.Cond.methodLink "MixerStationLaw" (150 : Nat) ({ cls := "MixerStationModel", name := "window", desc := "(IZ)I" } : Jvm.MethodName)) ∈ UW := uw_t5 68 rfl rfl
theorem mw_1029 : (Jvm.Cond.instanceMethod ({ cls := "MixerStationModel", name := "window", desc := "(IZ)I" } : Jvm.MethodName)) ∈ UW := uw_t5 69 rfl rfl
theorem mw_1030 : (Jvm.Cond.selects "MixerStationModel" ({ cls := "MixerStationModel", name := "window", desc := "(IZ)I" } : Jvm.MethodName) ({ cls := "MixerStationModel", name := "window", desc := "(IZ)I" } : Jvm.MethodName)) ∈ UW := uw_t5 70 rfl rfl
theorem mw_1031 : (Jvm.Cond.code ({ cls := "MixerStationModel", name := "window", desc := "(IZ)I" } : Jvm.MethodName) prog_8_method_57_code (3 : Nat) (Option.some Jvm.ClassFile.FieldType.int)) ∈ UW := uw_t5 71 rfl rfl
theorem mw_1032 : (Jvm.Cond.methodLink "MixerStationLaw" (153 : Nat) ({ cls := "MixerStationModel", name := "set", desc := "(II)I" } : Jvm.MethodName)) ∈ UW := uw_t5 72 rfl rfl
theorem mw_1033 : (Jvm.Cond.instanceMethod ({ cls := "MixerStationModel", name := "set", desc := "(II)I" } : Jvm.MethodName)) ∈ UW := uw_t5 73 rfl rfl
theorem mw_1034 : (Jvm.Cond.selects "MixerStationModel" ({ cls := "MixerStationModel", name := "set", desc := "(II)I" } : Jvm.MethodName) ({ cls := "MixerStationModel", name := "set", desc := "(II)I" } : Jvm.MethodName)) ∈ UW := uw_t5 74 rfl rfl
theorem mw_1035 : (Jvm.Cond.code ({ cls := "MixerStationModel", name := "set", desc := "(II)I" } : Jvm.MethodName) prog_8_method_59_code (4 : Nat) (Option.some Jvm.ClassFile.FieldType.int)) ∈ UW := uw_t5 75 rfl rfl
theorem mw_1036 : (Jvm.Cond.methodLink "MixerStationModel" (199 : Nat) ({ cls := "MixerStationModel", name := "isSetting", desc := "(II)Z" } : Jvm.MethodName)) ∈ UW := uw_t5 76 rfl rfl
theorem mw_1037 : (Jvm.Cond.static ({ cls := "MixerStationModel", name := "isSetting", desc := "(II)Z" } : Jvm.MethodName)) ∈ UW := uw_t5 77 rfl rfl
theorem mw_1038 : (Jvm.Cond.code ({ cls := "MixerStationModel", name := "isSetting", desc := "(II)Z" } : Jvm.MethodName) prog_8_method_58_code (2 : Nat) (Option.some Jvm.ClassFile.FieldType.boolean)) ∈ UW := uw_t5 78 rfl rfl
theorem mw_1039 : (Jvm.Cond.methodLink "MixerStationLaw" (156 : Nat) ({ cls := "MixerStationModel", name := "outside", desc := "(I)I" } : Jvm.MethodName)) ∈ UW := uw_t5 79 rfl rfl
theorem mw_1040 : (Jvm.Cond.instanceMethod ({ cls := "MixerStationModel", name := "outside", desc := "(I)I" } : Jvm.MethodName)) ∈ UW := uw_t5 80 rfl rfl
theorem mw_1041 : (Jvm.Cond.selects "MixerStationModel" ({ cls := "MixerStationModel", name := "outside", desc := "(I)I" } : Jvm.MethodName) ({ cls := "MixerStationModel", name := "outside", desc := "(I)I" } : Jvm.MethodName)) ∈ UW := uw_t5 81 rfl rfl
theorem mw_1042 : (Jvm.Cond.code ({ cls := "MixerStationModel", name := "outside", desc := "(I)I" } : Jvm.MethodName) prog_8_method_61_code (3 : Nat) (Option.some Jvm.ClassFile.FieldType.int)) ∈ UW := uw_t5 82 rfl rfl
theorem mw_1043 : (Jvm.Cond.methodLink "MixerStationModel" (207 : Nat) ({ cls := "MixerStationModel", name := "isOutside", desc := "(I)Z" } : Jvm.MethodName)) ∈ UW := uw_t5 83 rfl rfl
theorem mw_1044 : (Jvm.Cond.static ({ cls := "MixerStationModel", name := "isOutside", desc := "(I)Z" } : Jvm.MethodName)) ∈ UW := uw_t5 84 rfl rfl
theorem mw_1045 : (Jvm.Cond.code ({ cls := "MixerStationModel", name := "isOutside", desc := "(I)Z" } : Jvm.MethodName) prog_8_method_60_code (1 : Nat) (Option.some Jvm.ClassFile.FieldType.boolean)) ∈ UW := uw_t5 85 rfl rfl
theorem mw_1046 : (Jvm.Cond.constantLong "MixerStationModel" (203 : Nat) (-20 : Int64)) ∈ UW := uw_t5 86 rfl rfl
theorem mw_1047 : (Jvm.Cond.constantLong "MixerStationModel" (205 : Nat) (40 : Int64)) ∈ UW := uw_t5 87 rfl rfl
theorem mw_1048 : (Jvm.Cond.methodLink "MixerStationLaw" (159 : Nat) ({ cls := "MixerStationModel", name := "pass", desc := "(I)I" } : Jvm.MethodName)) ∈ UW := uw_t5 88 rfl rfl
theorem mw_1049 : (Jvm.Cond.instanceMethod ({ cls := "MixerStationModel", name := "pass", desc := "(I)I" } : Jvm.MethodName)) ∈ UW := uw_t5 89 rfl rfl
theorem mw_1050 : (Jvm.Cond.selects "MixerStationModel" ({ cls := "MixerStationModel", name := "pass", desc := "(I)I" } : Jvm.MethodName) ({ cls := "MixerStationModel", name := "pass", desc := "(I)I" } : Jvm.MethodName)) ∈ UW := uw_t5 90 rfl rfl
theorem mw_1051 : (Jvm.Cond.code ({ cls := "MixerStationModel", name := "pass", desc := "(I)I" } : Jvm.MethodName) prog_8_method_62_code (2 : Nat) (Option.some Jvm.ClassFile.FieldType.int)) ∈ UW := uw_t5 91 rfl rfl
theorem mw_1052 : (Jvm.Cond.constantLong "MixerStationModel" (210 : Nat) (60 : Int64)) ∈ UW := uw_t5 92 rfl rfl
theorem mw_1053 : (Jvm.Cond.methodLink "MixerStationModel" (212 : Nat) ({ cls := "MixerStationModel", name := "goMinutes", desc := "([II)I" } : Jvm.MethodName)) ∈ UW := uw_t5 93 rfl rfl
theorem mw_1054 : (Jvm.Cond.static ({ cls := "MixerStationModel", name := "goMinutes", desc := "([II)I" } : Jvm.MethodName)) ∈ UW := uw_t5 94 rfl rfl
theorem mw_1055 : (Jvm.Cond.code ({ cls := "MixerStationModel", name := "goMinutes", desc := "([II)I" } : Jvm.MethodName) prog_8_method_34_code (4 : Nat) (Option.some Jvm.ClassFile.FieldType.int)) ∈ UW := uw_t5 95 rfl rfl
theorem mw_1056 : (Jvm.Cond.methodLink "MixerStationModel" (113 : Nat) ({ cls := "MixerStationModel", name := "goMinute", desc := "([I)I" } : Jvm.MethodName)) ∈ UW := uw_t5 96 rfl rfl
theorem mw_1057 : (Jvm.Cond.static ({ cls := "MixerStationModel", name := "goMinute", desc := "([I)I" } : Jvm.MethodName)) ∈ UW := uw_t5 97 rfl rfl
theorem mw_1058 : (Jvm.Cond.code ({ cls := "MixerStationModel", name := "goMinute", desc := "([I)I" } : Jvm.MethodName) prog_8_method_33_code (3 : Nat) (Option.some Jvm.ClassFile.FieldType.int)) ∈ UW := uw_t5 98 rfl rfl
theorem mw_1059 : (Jvm.Cond.methodLink "MixerStationModel" (91 : Nat) ({ cls := "MixerStationModel", name := "goSeason", desc := "([I)V" } : Jvm.MethodName)) ∈ UW := uw_t5 99 rfl rfl
theorem mw_1060 : (Jvm.Cond.static ({ cls := "MixerStationModel", name := "goSeason", desc := "([I)V" } : Jvm.MethodName)) ∈ UW := uw_t5 100 rfl rfl
theorem mw_1061 : (Jvm.Cond.code ({ cls := "MixerStationModel", name := "goSeason", desc := "([I)V" } : Jvm.MethodName) prog_8_method_23_code (2 : Nat) (Option.none : Option Jvm.ClassFile.FieldType)) ∈ UW := uw_t5 101 rfl rfl
theorem mw_1062 : (Jvm.Cond.methodLink "MixerStationModel" (94 : Nat) ({ cls := "MixerStationModel", name := "goBoiler", desc := "([I)V" } : Jvm.MethodName)) ∈ UW := uw_t5 102 rfl rfl
theorem mw_1063 : (Jvm.Cond.static ({ cls := "MixerStationModel", name := "goBoiler", desc := "([I)V" } : Jvm.MethodName)) ∈ UW := uw_t5 103 rfl rfl
theorem mw_1064 : (Jvm.Cond.code ({ cls := "MixerStationModel", name := "goBoiler", desc := "([I)V" } : Jvm.MethodName) prog_8_method_25_code (4 : Nat) (Option.none : Option Jvm.ClassFile.FieldType)) ∈ UW := uw_t5 104 rfl rfl
theorem mw_1065 : (Jvm.Cond.methodLink "MixerStationModel" (76 : Nat) ({ cls := "MixerStationModel", name := "turn", desc := "([II)V" } : Jvm.MethodName)) ∈ UW := uw_t5 105 rfl rfl
theorem mw_1066 : (Jvm.Cond.static ({ cls := "MixerStationModel", name := "turn", desc := "([II)V" } : Jvm.MethodName)) ∈ UW := uw_t5 106 rfl rfl
theorem mw_1067 : (Jvm.Cond.code ({ cls := "MixerStationModel", name := "turn", desc := "([II)V" } : Jvm.MethodName) prog_8_method_24_code (2 : Nat) (Option.none : Option Jvm.ClassFile.FieldType)) ∈ UW := uw_t5 107 rfl rfl
theorem mw_1068 : (Jvm.Cond.methodLink "MixerStationModel" (97 : Nat) ({ cls := "MixerStationModel", name := "goValve", desc := "([I)V" } : Jvm.MethodName)) ∈ UW := uw_t5 108 rfl rfl
theorem mw_1069 : (Jvm.Cond.static ({ cls := "MixerStationModel", name := "goValve", desc := "([I)V" } : Jvm.MethodName)) ∈ UW := uw_t5 109 rfl rfl
theorem mw_1070 : (Jvm.Cond.code ({ cls := "MixerStationModel", name := "goValve", desc := "([I)V" } : Jvm.MethodName) prog_8_method_28_code (3 : Nat) (Option.none : Option Jvm.ClassFile.FieldType)) ∈ UW := uw_t5 110 rfl rfl
theorem mw_1071 : (Jvm.Cond.methodLink "MixerStationModel" (87 : Nat) ({ cls := "MixerStationModel", name := "isPinched", desc := "([I)Z" } : Jvm.MethodName)) ∈ UW := uw_t5 111 rfl rfl
theorem mw_1072 : (Jvm.Cond.static ({ cls := "MixerStationModel", name := "isPinched", desc := "([I)Z" } : Jvm.MethodName)) ∈ UW := uw_t5 112 rfl rfl
theorem mw_1073 : (Jvm.Cond.code ({ cls := "MixerStationModel", name := "isPinched", desc := "([I)Z" } : Jvm.MethodName) prog_8_method_27_code (1 : Nat) (Option.some Jvm.ClassFile.FieldType.boolean)) ∈ UW := uw_t5 113 rfl rfl
theorem mw_1074 : (Jvm.Cond.methodLink "MixerStationModel" (84 : Nat) ({ cls := "MixerStationModel", name := "freeTarget", desc := "([I)I" } : Jvm.MethodName)) ∈ UW := uw_t5 114 rfl rfl
theorem mw_1075 : (Jvm.Cond.static ({ cls := "MixerStationModel", name := "freeTarget", desc := "([I)I" } : Jvm.MethodName)) ∈ UW := uw_t5 115 rfl rfl
theorem mw_1076 : (Jvm.Cond.code ({ cls := "MixerStationModel", name := "freeTarget", desc := "([I)I" } : Jvm.MethodName) prog_8_method_26_code (2 : Nat) (Option.some Jvm.ClassFile.FieldType.int)) ∈ UW := uw_t5 116 rfl rfl
theorem mw_1077 : (Jvm.Cond.methodLink "MixerStationModel" (100 : Nat) ({ cls := "MixerStationModel", name := "goMixing", desc := "([I)V" } : Jvm.MethodName)) ∈ UW := uw_t5 117 rfl rfl
theorem mw_1078 : (Jvm.Cond.static ({ cls := "MixerStationModel", name := "goMixing", desc := "([I)V" } : Jvm.MethodName)) ∈ UW := uw_t5 118 rfl rfl
theorem mw_1079 : (Jvm.Cond.code ({ cls := "MixerStationModel", name := "goMixing", desc := "([I)V" } : Jvm.MethodName) prog_8_method_29_code (2 : Nat) (Option.none : Option Jvm.ClassFile.FieldType)) ∈ UW := uw_t5 119 rfl rfl
theorem mw_1080 : (Jvm.Cond.methodLink "MixerStationModel" (103 : Nat) ({ cls := "MixerStationModel", name := "goRadiators", desc := "([II)V" } : Jvm.MethodName)) ∈ UW := uw_t5 120 rfl rfl
theorem mw_1081 : (Jvm.Cond.static ({ cls := "MixerStationModel", name := "goRadiators", desc := "([II)V" } : Jvm.MethodName)) ∈ UW := uw_t5 121 rfl rfl
theorem mw_1082 : (Jvm.Cond.code ({ cls := "MixerStationModel", name := "goRadiators", desc := "([II)V" } : Jvm.MethodName) prog_8_method_30_code (5 : Nat) (Option.none : Option Jvm.ClassFile.FieldType)) ∈ UW := uw_t5 122 rfl rfl
theorem mw_1083 : (Jvm.Cond.methodLink "MixerStationModel" (106 : Nat) ({ cls := "MixerStationModel", name := "goLeak", desc := "([II)V" } : Jvm.MethodName)) ∈ UW := uw_t5 123 rfl rfl
theorem mw_1084 : (Jvm.Cond.static ({ cls := "MixerStationModel", name := "goLeak", desc := "([II)V" } : Jvm.MethodName)) ∈ UW := uw_t5 124 rfl rfl
theorem mw_1085 : (Jvm.Cond.code ({ cls := "MixerStationModel", name := "goLeak", desc := "([II)V" } : Jvm.MethodName) prog_8_method_31_code (4 : Nat) (Option.none : Option Jvm.ClassFile.FieldType)) ∈ UW := uw_t5 125 rfl rfl
theorem mw_1086 : (Jvm.Cond.methodLink "MixerStationModel" (109 : Nat) ({ cls := "MixerStationModel", name := "feels", desc := "([II)Z" } : Jvm.MethodName)) ∈ UW := uw_t5 126 rfl rfl
theorem mw_1087 : (Jvm.Cond.static ({ cls := "MixerStationModel", name := "feels", desc := "([II)Z" } : Jvm.MethodName)) ∈ UW := uw_t5 127 rfl rfl
theorem mw_1088 : (Jvm.Cond.code ({ cls := "MixerStationModel", name := "feels", desc := "([II)Z" } : Jvm.MethodName) prog_8_method_32_code (5 : Nat) (Option.some Jvm.ClassFile.FieldType.boolean)) ∈ UW := uw_t5 128 rfl rfl
theorem mw_1089 : (Jvm.Cond.methodLink "MixerStationLaw" (162 : Nat) ({ cls := "MixerStationModel", name := "undo", desc := "()I" } : Jvm.MethodName)) ∈ UW := uw_t5 129 rfl rfl
theorem mw_1090 : (Jvm.Cond.instanceMethod ({ cls := "MixerStationModel", name := "undo", desc := "()I" } : Jvm.MethodName)) ∈ UW := uw_t5 130 rfl rfl
theorem mw_1091 : (Jvm.Cond.selects "MixerStationModel" ({ cls := "MixerStationModel", name := "undo", desc := "()I" } : Jvm.MethodName) ({ cls := "MixerStationModel", name := "undo", desc := "()I" } : Jvm.MethodName)) ∈ UW := uw_t5 131 rfl rfl
theorem mw_1092 : (Jvm.Cond.code ({ cls := "MixerStationModel", name := "undo", desc := "()I" } : Jvm.MethodName) prog_8_method_63_code (1 : Nat) (Option.some Jvm.ClassFile.FieldType.int)) ∈ UW := uw_t5 132 rfl rfl
theorem mw_1093 : (Jvm.Cond.methodLink "MixerStationLaw" (165 : Nat) ({ cls := "MixerStationModel", name := "ahead", desc := "(II)I" } : Jvm.MethodName)) ∈ UW := uw_t5 133 rfl rfl
theorem mw_1094 : (Jvm.Cond.instanceMethod ({ cls := "MixerStationModel", name := "ahead", desc := "(II)I" } : Jvm.MethodName)) ∈ UW := uw_t5 134 rfl rfl
theorem mw_1095 : (Jvm.Cond.selects "MixerStationModel" ({ cls := "MixerStationModel", name := "ahead", desc := "(II)I" } : Jvm.MethodName) ({ cls := "MixerStationModel", name := "ahead", desc := "(II)I" } : Jvm.MethodName)) ∈ UW := uw_t5 135 rfl rfl
theorem mw_1096 : (Jvm.Cond.code ({ cls := "MixerStationModel", name := "ahead", desc := "(II)I" } : Jvm.MethodName) prog_8_method_65_code (3 : Nat) (Option.some Jvm.ClassFile.FieldType.int)) ∈ UW := uw_t5 136 rfl rfl
theorem mw_1097 : (Jvm.Cond.methodLink "MixerStationModel" (217 : Nat) ({ cls := "MixerStationModel", name := "isAhead", desc := "(I)Z" } : Jvm.MethodName)) ∈ UW := uw_t5 137 rfl rfl
theorem mw_1098 : (Jvm.Cond.static ({ cls := "MixerStationModel", name := "isAhead", desc := "(I)Z" } : Jvm.MethodName)) ∈ UW := uw_t5 138 rfl rfl
theorem mw_1099 : (Jvm.Cond.code ({ cls := "MixerStationModel", name := "isAhead", desc := "(I)Z" } : Jvm.MethodName) prog_8_method_64_code (1 : Nat) (Option.some Jvm.ClassFile.FieldType.boolean)) ∈ UW := uw_t5 139 rfl rfl
theorem mw_1100 : (Jvm.Cond.constantLong "MixerStationModel" (215 : Nat) (240 : Int64)) ∈ UW := uw_t5 140 rfl rfl
theorem mw_1101 : (Jvm.Cond.methodLink "MixerStationModel" (220 : Nat) ({ cls := "MixerStationModel", name := "begin", desc := "()V" } : Jvm.MethodName)) ∈ UW := uw_t5 141 rfl rfl
theorem mw_1103 : (Jvm.Cond.instanceMethod ({ cls := "MixerStationModel", name := "begin", desc := "()V" } : Jvm.MethodName)) ∈ UW := uw_t5 143 rfl rfl
theorem mw_1104 : (Jvm.Cond.code ({ cls := "MixerStationModel", name := "begin", desc := "()V" } : Jvm.MethodName) prog_8_method_12_code (1 : Nat) (Option.none : Option Jvm.ClassFile.FieldType)) ∈ UW := uw_t5 144 rfl rfl
theorem mw_1105 : (Jvm.Cond.methodLink "MixerStationLaw" (168 : Nat) ({ cls := "MixerStationModel", name := "minutesTo", desc := "(I)I" } : Jvm.MethodName)) ∈ UW := uw_t5 145 rfl rfl
theorem mw_1106 : (Jvm.Cond.instanceMethod ({ cls := "MixerStationModel", name := "minutesTo", desc := "(I)I" } : Jvm.MethodName)) ∈ UW := uw_t5 146 rfl rfl
theorem mw_1107 : (Jvm.Cond.selects "MixerStationModel" ({ cls := "MixerStationModel", name := "minutesTo", desc := "(I)I" } : Jvm.MethodName) ({ cls := "MixerStationModel", name := "minutesTo", desc := "(I)I" } : Jvm.MethodName)) ∈ UW := uw_t5 147 rfl rfl
theorem mw_1108 : (Jvm.Cond.code ({ cls := "MixerStationModel", name := "minutesTo", desc := "(I)I" } : Jvm.MethodName) prog_8_method_66_code (3 : Nat) (Option.some Jvm.ClassFile.FieldType.int)) ∈ UW := uw_t5 148 rfl rfl
theorem mw_1109 : (Jvm.Cond.methodLink "MixerStationLaw" (172 : Nat) ({ cls := "MixerStationModel", name := "whyOff", desc := "()I" } : Jvm.MethodName)) ∈ UW := uw_t5 149 rfl rfl
theorem mw_1110 : (Jvm.Cond.instanceMethod ({ cls := "MixerStationModel", name := "whyOff", desc := "()I" } : Jvm.MethodName)) ∈ UW := uw_t5 150 rfl rfl
theorem mw_1111 : (Jvm.Cond.selects "MixerStationModel" ({ cls := "MixerStationModel", name := "whyOff", desc := "()I" } : Jvm.MethodName) ({ cls := "MixerStationModel", name := "whyOff", desc := "()I" } : Jvm.MethodName)) ∈ UW := uw_t5 151 rfl rfl
theorem mw_1112 : (Jvm.Cond.code ({ cls := "MixerStationModel", name := "whyOff", desc := "()I" } : Jvm.MethodName) prog_8_method_67_code (1 : Nat) (Option.some Jvm.ClassFile.FieldType.int)) ∈ UW := uw_t5 152 rfl rfl
theorem mw_1113 : (Jvm.Cond.methodLink "MixerStationLaw" (176 : Nat) ({ cls := "MixerStationModel", name := "whyShare", desc := "()I" } : Jvm.MethodName)) ∈ UW := uw_t5 153 rfl rfl
theorem mw_1114 : (Jvm.Cond.instanceMethod ({ cls := "MixerStationModel", name := "whyShare", desc := "()I" } : Jvm.MethodName)) ∈ UW := uw_t5 154 rfl rfl
theorem mw_1115 : (Jvm.Cond.selects "MixerStationModel" ({ cls := "MixerStationModel", name := "whyShare", desc := "()I" } : Jvm.MethodName) ({ cls := "MixerStationModel", name := "whyShare", desc := "()I" } : Jvm.MethodName)) ∈ UW := uw_t5 155 rfl rfl
theorem mw_1116 : (Jvm.Cond.code ({ cls := "MixerStationModel", name := "whyShare", desc := "()I" } : Jvm.MethodName) prog_8_method_68_code (3 : Nat) (Option.some Jvm.ClassFile.FieldType.int)) ∈ UW := uw_t5 156 rfl rfl
theorem mw_1117 : (Jvm.Cond.methodLink "MixerStationLaw" (179 : Nat) ({ cls := "MixerStationModel", name := "bestSlope", desc := "(I)I" } : Jvm.MethodName)) ∈ UW := uw_t5 157 rfl rfl
theorem mw_1118 : (Jvm.Cond.instanceMethod ({ cls := "MixerStationModel", name := "bestSlope", desc := "(I)I" } : Jvm.MethodName)) ∈ UW := uw_t5 158 rfl rfl
theorem mw_1119 : (Jvm.Cond.selects "MixerStationModel" ({ cls := "MixerStationModel", name := "bestSlope", desc := "(I)I" } : Jvm.MethodName) ({ cls := "MixerStationModel", name := "bestSlope", desc := "(I)I" } : Jvm.MethodName)) ∈ UW := uw_t5 159 rfl rfl
theorem mw_1120 : (Jvm.Cond.code ({ cls := "MixerStationModel", name := "bestSlope", desc := "(I)I" } : Jvm.MethodName) prog_8_method_69_code (6 : Nat) (Option.some Jvm.ClassFile.FieldType.int)) ∈ UW := uw_t5 160 rfl rfl
theorem mw_1121 : (Jvm.Cond.methodLink "MixerStationLaw" (182 : Nat) ({ cls := "MixerStationModel", name := "leastPower", desc := "(I)I" } : Jvm.MethodName)) ∈ UW := uw_t5 161 rfl rfl
theorem mw_1122 : (Jvm.Cond.instanceMethod ({ cls := "MixerStationModel", name := "leastPower", desc := "(I)I" } : Jvm.MethodName)) ∈ UW := uw_t5 162 rfl rfl
theorem mw_1123 : (Jvm.Cond.selects "MixerStationModel" ({ cls := "MixerStationModel", name := "leastPower", desc := "(I)I" } : Jvm.MethodName) ({ cls := "MixerStationModel", name := "leastPower", desc := "(I)I" } : Jvm.MethodName)) ∈ UW := uw_t5 163 rfl rfl
theorem mw_1124 : (Jvm.Cond.code ({ cls := "MixerStationModel", name := "leastPower", desc := "(I)I" } : Jvm.MethodName) prog_8_method_71_code (3 : Nat) (Option.some Jvm.ClassFile.FieldType.int)) ∈ UW := uw_t5 164 rfl rfl
theorem mw_1125 : (Jvm.Cond.methodLink "MixerStationModel" (223 : Nat) ({ cls := "MixerStationModel", name := "allReach", desc := "(I)Z" } : Jvm.MethodName)) ∈ UW := uw_t5 165 rfl rfl
theorem mw_1127 : (Jvm.Cond.instanceMethod ({ cls := "MixerStationModel", name := "allReach", desc := "(I)Z" } : Jvm.MethodName)) ∈ UW := uw_t5 167 rfl rfl
theorem mw_1128 : (Jvm.Cond.code ({ cls := "MixerStationModel", name := "allReach", desc := "(I)Z" } : Jvm.MethodName) prog_8_method_70_code (5 : Nat) (Option.some Jvm.ClassFile.FieldType.boolean)) ∈ UW := uw_t5 168 rfl rfl
theorem mw_1129 : (Jvm.Cond.methodLink "MixerStationLaw" (185 : Nat) ({ cls := "MixerStationModel", name := "heatFor", desc := "(I)I" } : Jvm.MethodName)) ∈ UW := uw_t5 169 rfl rfl
theorem mw_1130 : (Jvm.Cond.instanceMethod ({ cls := "MixerStationModel", name := "heatFor", desc := "(I)I" } : Jvm.MethodName)) ∈ UW := uw_t5 170 rfl rfl
theorem mw_1131 : (Jvm.Cond.selects "MixerStationModel" ({ cls := "MixerStationModel", name := "heatFor", desc := "(I)I" } : Jvm.MethodName) ({ cls := "MixerStationModel", name := "heatFor", desc := "(I)I" } : Jvm.MethodName)) ∈ UW := uw_t5 171 rfl rfl
theorem mw_1132 : (Jvm.Cond.code ({ cls := "MixerStationModel", name := "heatFor", desc := "(I)I" } : Jvm.MethodName) prog_8_method_72_code (2 : Nat) (Option.some Jvm.ClassFile.FieldType.int)) ∈ UW := uw_t5 172 rfl rfl
theorem mw_1133 : (Jvm.Cond.methodLink "MixerStationLaw" (191 : Nat) ({ cls := "MixerStationModel", name := "runScript", desc := "(IJ)I" } : Jvm.MethodName)) ∈ UW := uw_t5 173 rfl rfl
theorem mw_1134 : (Jvm.Cond.instanceMethod ({ cls := "MixerStationModel", name := "runScript", desc := "(IJ)I" } : Jvm.MethodName)) ∈ UW := uw_t5 174 rfl rfl
theorem mw_1135 : (Jvm.Cond.selects "MixerStationModel" ({ cls := "MixerStationModel", name := "runScript", desc := "(IJ)I" } : Jvm.MethodName) ({ cls := "MixerStationModel", name := "runScript", desc := "(IJ)I" } : Jvm.MethodName)) ∈ UW := uw_t5 175 rfl rfl
theorem mw_1136 : (Jvm.Cond.code ({ cls := "MixerStationModel", name := "runScript", desc := "(IJ)I" } : Jvm.MethodName) prog_8_method_74_code (6 : Nat) (Option.some Jvm.ClassFile.FieldType.int)) ∈ UW := uw_t5 176 rfl rfl
theorem mw_1137 : (Jvm.Cond.constantLong "MixerStationModel" (226 : Nat) (4 : Int64)) ∈ UW := uw_t5 177 rfl rfl
theorem mw_1138 : (Jvm.Cond.methodLink "MixerStationModel" (228 : Nat) ({ cls := "MixerStationModel", name := "tenTo", desc := "(I)J" } : Jvm.MethodName)) ∈ UW := uw_t5 178 rfl rfl
theorem mw_1139 : (Jvm.Cond.static ({ cls := "MixerStationModel", name := "tenTo", desc := "(I)J" } : Jvm.MethodName)) ∈ UW := uw_t5 179 rfl rfl
theorem mw_1140 : (Jvm.Cond.code ({ cls := "MixerStationModel", name := "tenTo", desc := "(I)J" } : Jvm.MethodName) prog_8_method_6_code (4 : Nat) (Option.some Jvm.ClassFile.FieldType.long)) ∈ UW := uw_t5 180 rfl rfl
theorem mw_1141 : (Jvm.Cond.constantLong "MixerStationModel" (232 : Nat) (10000 : Int64)) ∈ UW := uw_t5 181 rfl rfl
theorem mw_1142 : (Jvm.Cond.methodLink "MixerStationModel" (234 : Nat) ({ cls := "MixerStationModel", name := "does", desc := "(I)Z" } : Jvm.MethodName)) ∈ UW := uw_t5 182 rfl rfl
theorem mw_1144 : (Jvm.Cond.instanceMethod ({ cls := "MixerStationModel", name := "does", desc := "(I)Z" } : Jvm.MethodName)) ∈ UW := uw_t5 184 rfl rfl
theorem mw_1145 : (Jvm.Cond.code ({ cls := "MixerStationModel", name := "does", desc := "(I)Z" } : Jvm.MethodName) prog_8_method_73_code (7 : Nat) (Option.some Jvm.ClassFile.FieldType.boolean)) ∈ UW := uw_t5 185 rfl rfl
theorem mw_1146 : (Jvm.Cond.methodLink "MixerStationLaw" (195 : Nat) ({ cls := "MixerStationModel", name := "simulate", desc := "(JI)J" } : Jvm.MethodName)) ∈ UW := uw_t5 186 rfl rfl
theorem mw_1147 : (Jvm.Cond.instanceMethod ({ cls := "MixerStationModel", name := "simulate", desc := "(JI)J" } : Jvm.MethodName)) ∈ UW := uw_t5 187 rfl rfl
theorem mw_1148 : (Jvm.Cond.selects "MixerStationModel" ({ cls := "MixerStationModel", name := "simulate", desc := "(JI)J" } : Jvm.MethodName) ({ cls := "MixerStationModel", name := "simulate", desc := "(JI)J" } : Jvm.MethodName)) ∈ UW := uw_t5 188 rfl rfl
theorem mw_1149 : (Jvm.Cond.code ({ cls := "MixerStationModel", name := "simulate", desc := "(JI)J" } : Jvm.MethodName) prog_8_method_75_code (10 : Nat) (Option.some Jvm.ClassFile.FieldType.long)) ∈ UW := uw_t5 189 rfl rfl
theorem mw_1150 : (Jvm.Cond.constantLong "MixerStationModel" (237 : Nat) (6364136223846793005 : Int64)) ∈ UW := uw_t5 190 rfl rfl
theorem mw_1151 : (Jvm.Cond.constantLong "MixerStationModel" (239 : Nat) (1442695040888963407 : Int64)) ∈ UW := uw_t5 191 rfl rfl
theorem mw_1152 : (Jvm.Cond.constantLong "MixerStationModel" (241 : Nat) (1000000 : Int64)) ∈ UW := uw_t5 192 rfl rfl
theorem mw_1153 : (Jvm.Cond.methodLink "MixerStationLaw" (198 : Nat) ({ cls := "MixerStationModel", name := "save", desc := "(I)I" } : Jvm.MethodName)) ∈ UW := uw_t5 193 rfl rfl
theorem mw_1154 : (Jvm.Cond.instanceMethod ({ cls := "MixerStationModel", name := "save", desc := "(I)I" } : Jvm.MethodName)) ∈ UW := uw_t5 194 rfl rfl
theorem mw_1155 : (Jvm.Cond.selects "MixerStationModel" ({ cls := "MixerStationModel", name := "save", desc := "(I)I" } : Jvm.MethodName) ({ cls := "MixerStationModel", name := "save", desc := "(I)I" } : Jvm.MethodName)) ∈ UW := uw_t5 195 rfl rfl
theorem mw_1156 : (Jvm.Cond.code ({ cls := "MixerStationModel", name := "save", desc := "(I)I" } : Jvm.MethodName) prog_8_method_76_code (2 : Nat) (Option.some Jvm.ClassFile.FieldType.int)) ∈ UW := uw_t5 196 rfl rfl
theorem mw_1157 : (Jvm.Cond.methodLink "MixerStationLaw" (201 : Nat) ({ cls := "MixerStationModel", name := "restore", desc := "(I)I" } : Jvm.MethodName)) ∈ UW := uw_t5 197 rfl rfl
theorem mw_1158 : (Jvm.Cond.instanceMethod ({ cls := "MixerStationModel", name := "restore", desc := "(I)I" } : Jvm.MethodName)) ∈ UW := uw_t5 198 rfl rfl
theorem mw_1159 : (Jvm.Cond.selects "MixerStationModel" ({ cls := "MixerStationModel", name := "restore", desc := "(I)I" } : Jvm.MethodName) ({ cls := "MixerStationModel", name := "restore", desc := "(I)I" } : Jvm.MethodName)) ∈ UW := uw_t5 199 rfl rfl
theorem mw_1160 : (Jvm.Cond.code ({ cls := "MixerStationModel", name := "restore", desc := "(I)I" } : Jvm.MethodName) prog_8_method_77_code (2 : Nat) (Option.some Jvm.ClassFile.FieldType.int)) ∈ UW := uw_t5 200 rfl rfl
theorem mw_1161 : (Jvm.Cond.constantLong "MixerStationLaw" (186 : Nat) (4294967295 : Int64)) ∈ UW := uw_t5 201 rfl rfl
theorem mw_1162 : (Jvm.Cond.arrayClass Jvm.ClassFile.FieldType.long) ∈ UW := uw_t5 202 rfl rfl
theorem ms_0 : Cond.selects "MixerStation$StationReader" ⟨"MixerStation$StationReader", "readHead", "(LMixerStation$State;)Z"⟩ ⟨"MixerStation$StationReader", "readHead", "(LMixerStation$State;)Z"⟩ ∈ UW := uw_in (List.mem_append_left _ (List.mem_of_getElem? (l := k2_sels lw_privs) (i := 0) rfl)) rfl
theorem ms_1 : Cond.selects "MixerStation$StationReader" ⟨"MixerStation$StationReader", "here", "()I"⟩ ⟨"MixerStation$StationReader", "here", "()I"⟩ ∈ UW := uw_in (List.mem_append_left _ (List.mem_of_getElem? (l := k2_sels lw_privs) (i := 1) rfl)) rfl
theorem ms_2 : Cond.selects "MixerStation$StationReader" ⟨"MixerStation$StationReader", "readSetting", "(LMixerStation$State;II)Z"⟩ ⟨"MixerStation$StationReader", "readSetting", "(LMixerStation$State;II)Z"⟩ ∈ UW := uw_in (List.mem_append_left _ (List.mem_of_getElem? (l := k2_sels lw_privs) (i := 2) rfl)) rfl
theorem ms_3 : Cond.selects "MixerStation$StationReader" ⟨"MixerStation$StationReader", "readNumber", "(III)I"⟩ ⟨"MixerStation$StationReader", "readNumber", "(III)I"⟩ ∈ UW := uw_in (List.mem_append_left _ (List.mem_of_getElem? (l := k2_sels lw_privs) (i := 3) rfl)) rfl
theorem ms_4 : Cond.selects "MixerStation$StationReader" ⟨"MixerStation$StationReader", "readPart", "(LMixerStation$State;)Z"⟩ ⟨"MixerStation$StationReader", "readPart", "(LMixerStation$State;)Z"⟩ ∈ UW := uw_in (List.mem_append_left _ (List.mem_of_getElem? (l := k2_sels lw_privs) (i := 4) rfl)) rfl
theorem ms_5 : Cond.selects "MixerStation$StationReader" ⟨"MixerStation$StationReader", "readRoom", "(LMixerStation$State;)Z"⟩ ⟨"MixerStation$StationReader", "readRoom", "(LMixerStation$State;)Z"⟩ ∈ UW := uw_in (List.mem_append_left _ (List.mem_of_getElem? (l := k2_sels lw_privs) (i := 5) rfl)) rfl
theorem ms_6 : Cond.selects "MixerStation$State" ⟨"MixerStation$State", "move", "(III)V"⟩ ⟨"MixerStation$State", "move", "(III)V"⟩ ∈ UW := uw_in (List.mem_append_left _ (List.mem_of_getElem? (l := k2_sels lw_privs) (i := 6) rfl)) rfl
theorem ms_7 : Cond.selects "MixerStation$State" ⟨"MixerStation$State", "addHeat", "(II)V"⟩ ⟨"MixerStation$State", "addHeat", "(II)V"⟩ ∈ UW := uw_in (List.mem_append_left _ (List.mem_of_getElem? (l := k2_sels lw_privs) (i := 7) rfl)) rfl
theorem ms_8 : Cond.selects "MixerStation$StationReader" ⟨"MixerStation$StationReader", "readOutside", "(LMixerStation$State;)Z"⟩ ⟨"MixerStation$StationReader", "readOutside", "(LMixerStation$State;)Z"⟩ ∈ UW := uw_in (List.mem_append_left _ (List.mem_of_getElem? (l := k2_sels lw_privs) (i := 8) rfl)) rfl
theorem ms_9 : Cond.selects "MixerStation$State" ⟨"MixerStation$State", "mustStop", "()Z"⟩ ⟨"MixerStation$State", "mustStop", "()Z"⟩ ∈ UW := uw_in (List.mem_append_left _ (List.mem_of_getElem? (l := k2_sels lw_privs) (i := 9) rfl)) rfl
theorem ms_10 : Cond.selects "MixerStation$State" ⟨"MixerStation$State", "mayStart", "()Z"⟩ ⟨"MixerStation$State", "mayStart", "()Z"⟩ ∈ UW := uw_in (List.mem_append_left _ (List.mem_of_getElem? (l := k2_sels lw_privs) (i := 10) rfl)) rfl
theorem ms_11 : Cond.selects "java/lang/Throwable" ⟨"java/lang/Throwable", "fillInStackTrace", "(I)Ljava/lang/Throwable;"⟩ ⟨"java/lang/Throwable", "fillInStackTrace", "(I)Ljava/lang/Throwable;"⟩ ∈ UW := uw_in (List.mem_append_left _ (List.mem_of_getElem? (l := k2_sels lw_privs) (i := 11) rfl)) rfl
theorem ms_12 : Cond.selects "MixerStation$History" ⟨"MixerStation$History", "forgetOldest", "()V"⟩ ⟨"MixerStation$History", "forgetOldest", "()V"⟩ ∈ UW := uw_in (List.mem_append_left _ (List.mem_of_getElem? (l := k2_sels lw_privs) (i := 12) rfl)) rfl
theorem ms_13 : Cond.selects "MixerStation$State" ⟨"MixerStation$State", "mix", "()V"⟩ ⟨"MixerStation$State", "mix", "()V"⟩ ∈ UW := uw_in (List.mem_append_left _ (List.mem_of_getElem? (l := k2_sels lw_privs) (i := 13) rfl)) rfl
theorem ms_14 : Cond.selects "MixerStation$State" ⟨"MixerStation$State", "heatRooms", "()V"⟩ ⟨"MixerStation$State", "heatRooms", "()V"⟩ ∈ UW := uw_in (List.mem_append_left _ (List.mem_of_getElem? (l := k2_sels lw_privs) (i := 14) rfl)) rfl
theorem ms_15 : Cond.selects "MixerStation$State" ⟨"MixerStation$State", "leakRooms", "()V"⟩ ⟨"MixerStation$State", "leakRooms", "()V"⟩ ∈ UW := uw_in (List.mem_append_left _ (List.mem_of_getElem? (l := k2_sels lw_privs) (i := 15) rfl)) rfl
theorem ms_16 : Cond.selects "MixerStation$State" ⟨"MixerStation$State", "judgeRooms", "()V"⟩ ⟨"MixerStation$State", "judgeRooms", "()V"⟩ ∈ UW := uw_in (List.mem_append_left _ (List.mem_of_getElem? (l := k2_sels lw_privs) (i := 16) rfl)) rfl
theorem ms_17 : Cond.selects "MixerStationModel" ⟨"MixerStationModel", "refused", "(I)Z"⟩ ⟨"MixerStationModel", "refused", "(I)Z"⟩ ∈ UW := uw_in (List.mem_append_left _ (List.mem_of_getElem? (l := k2_sels lw_privs) (i := 17) rfl)) rfl
theorem ms_18 : Cond.selects "MixerStationModel" ⟨"MixerStationModel", "readText", "()I"⟩ ⟨"MixerStationModel", "readText", "()I"⟩ ∈ UW := uw_in (List.mem_append_left _ (List.mem_of_getElem? (l := k2_sels lw_privs) (i := 18) rfl)) rfl
theorem ms_19 : Cond.selects "MixerStationModel" ⟨"MixerStationModel", "isNext", "(I)Z"⟩ ⟨"MixerStationModel", "isNext", "(I)Z"⟩ ∈ UW := uw_in (List.mem_append_left _ (List.mem_of_getElem? (l := k2_sels lw_privs) (i := 19) rfl)) rfl
theorem ms_20 : Cond.selects "MixerStationModel" ⟨"MixerStationModel", "accept", "(Z)V"⟩ ⟨"MixerStationModel", "accept", "(Z)V"⟩ ∈ UW := uw_in (List.mem_append_left _ (List.mem_of_getElem? (l := k2_sels lw_privs) (i := 20) rfl)) rfl
theorem ms_21 : Cond.selects "MixerStationModel" ⟨"MixerStationModel", "digit", "(II)I"⟩ ⟨"MixerStationModel", "digit", "(II)I"⟩ ∈ UW := uw_in (List.mem_append_left _ (List.mem_of_getElem? (l := k2_sels lw_privs) (i := 21) rfl)) rfl
theorem ms_22 : Cond.selects "MixerStationModel" ⟨"MixerStationModel", "two", "(II)I"⟩ ⟨"MixerStationModel", "two", "(II)I"⟩ ∈ UW := uw_in (List.mem_append_left _ (List.mem_of_getElem? (l := k2_sels lw_privs) (i := 22) rfl)) rfl
theorem ms_23 : Cond.selects "MixerStationModel" ⟨"MixerStationModel", "readRoom", "()V"⟩ ⟨"MixerStationModel", "readRoom", "()V"⟩ ∈ UW := uw_in (List.mem_append_left _ (List.mem_of_getElem? (l := k2_sels lw_privs) (i := 23) rfl)) rfl
theorem ms_24 : Cond.selects "MixerStationModel" ⟨"MixerStationModel", "readOutside", "()V"⟩ ⟨"MixerStationModel", "readOutside", "()V"⟩ ∈ UW := uw_in (List.mem_append_left _ (List.mem_of_getElem? (l := k2_sels lw_privs) (i := 24) rfl)) rfl
theorem ms_25 : Cond.selects "MixerStationModel" ⟨"MixerStationModel", "readSetting", "()V"⟩ ⟨"MixerStationModel", "readSetting", "()V"⟩ ∈ UW := uw_in (List.mem_append_left _ (List.mem_of_getElem? (l := k2_sels lw_privs) (i := 25) rfl)) rfl
theorem ms_26 : Cond.selects "MixerStationModel" ⟨"MixerStationModel", "isWarmPlace", "(I)Z"⟩ ⟨"MixerStationModel", "isWarmPlace", "(I)Z"⟩ ∈ UW := uw_in (List.mem_append_left _ (List.mem_of_getElem? (l := k2_sels lw_privs) (i := 26) rfl)) rfl
theorem ms_27 : Cond.selects "MixerStationModel" ⟨"MixerStationModel", "isRoom", "(I)Z"⟩ ⟨"MixerStationModel", "isRoom", "(I)Z"⟩ ∈ UW := uw_in (List.mem_append_left _ (List.mem_of_getElem? (l := k2_sels lw_privs) (i := 27) rfl)) rfl
theorem ms_28 : Cond.selects "MixerStationModel" ⟨"MixerStationModel", "note", "()V"⟩ ⟨"MixerStationModel", "note", "()V"⟩ ∈ UW := uw_in (List.mem_append_left _ (List.mem_of_getElem? (l := k2_sels lw_privs) (i := 28) rfl)) rfl
theorem ms_29 : Cond.selects "MixerStationModel" ⟨"MixerStationModel", "begin", "()V"⟩ ⟨"MixerStationModel", "begin", "()V"⟩ ∈ UW := uw_in (List.mem_append_left _ (List.mem_of_getElem? (l := k2_sels lw_privs) (i := 29) rfl)) rfl
theorem ms_30 : Cond.selects "MixerStationModel" ⟨"MixerStationModel", "allReach", "(I)Z"⟩ ⟨"MixerStationModel", "allReach", "(I)Z"⟩ ∈ UW := uw_in (List.mem_append_left _ (List.mem_of_getElem? (l := k2_sels lw_privs) (i := 30) rfl)) rfl
theorem ms_31 : Cond.selects "MixerStationModel" ⟨"MixerStationModel", "does", "(I)Z"⟩ ⟨"MixerStationModel", "does", "(I)Z"⟩ ∈ UW := uw_in (List.mem_append_left _ (List.mem_of_getElem? (l := k2_sels lw_privs) (i := 31) rfl)) rfl
end
section
theorem dX0_init_0 : decode cX0_init 0 = .ok (.aload_n 0, 1) := by decide +kernel
theorem dX0_init_1 : decode cX0_init 1 = .ok (.invokespecial 3, 3) := by decide +kernel
theorem dX0_init_4 : decode cX0_init 4 = .ok (.aload_n 0, 1) := by decide +kernel
theorem dX0_init_5 : decode cX0_init 5 = .ok (.bipush 14, 2) := by decide +kernel
theorem dX0_init_7 : decode cX0_init 7 = .ok (.anewarray 9, 3) := by decide +kernel
theorem dX0_init_10 : decode cX0_init 10 = .ok (.putfield 11, 3) := by decide +kernel
theorem dX0_init_13 : decode cX0_init 13 = .ok (.iconst 0, 1) := by decide +kernel
theorem dX0_init_14 : decode cX0_init 14 = .ok (.istore_n 1, 1) := by decide +kernel
theorem dX0_init_15 : decode cX0_init 15 = .ok (.iload_n 1, 1) := by decide +kernel
theorem dX0_init_16 : decode cX0_init 16 = .ok (.aload_n 0, 1) := by decide +kernel
theorem dX0_init_17 : decode cX0_init 17 = .ok (.getfield 11, 3) := by decide +kernel
theorem dX0_init_20 : decode cX0_init 20 = .ok (.arraylength, 1) := by decide +kernel
theorem dX0_init_21 : decode cX0_init 21 = .ok (.if_icmp .ge 22, 3) := by decide +kernel
theorem dX0_init_24 : decode cX0_init 24 = .ok (.aload_n 0, 1) := by decide +kernel
theorem dX0_init_25 : decode cX0_init 25 = .ok (.getfield 11, 3) := by decide +kernel
theorem dX0_init_28 : decode cX0_init 28 = .ok (.iload_n 1, 1) := by decide +kernel
theorem dX0_init_29 : decode cX0_init 29 = .ok (.new 9, 3) := by decide +kernel
theorem dX0_init_32 : decode cX0_init 32 = .ok (.dup, 1) := by decide +kernel
theorem dX0_init_33 : decode cX0_init 33 = .ok (.invokespecial 17, 3) := by decide +kernel
theorem dX0_init_36 : decode cX0_init 36 = .ok (.aastore, 1) := by decide +kernel
theorem dX0_init_37 : decode cX0_init 37 = .ok (.iinc 1 1, 3) := by decide +kernel
theorem dX0_init_40 : decode cX0_init 40 = .ok (.goto (-25), 3) := by decide +kernel
theorem dX0_init_43 : decode cX0_init 43 = .ok (.return_, 1) := by decide +kernel
theorem dX0_isEmpty_0 : decode cX0_isEmpty 0 = .ok (.aload_n 0, 1) := by decide +kernel
theorem dX0_isEmpty_1 : decode cX0_isEmpty 1 = .ok (.getfield 18, 3) := by decide +kernel
theorem dX0_isEmpty_4 : decode cX0_isEmpty 4 = .ok (.ifCond .gt 7, 3) := by decide +kernel
theorem dX0_isEmpty_7 : decode cX0_isEmpty 7 = .ok (.iconst 1, 1) := by decide +kernel
theorem dX0_isEmpty_8 : decode cX0_isEmpty 8 = .ok (.goto 4, 3) := by decide +kernel
theorem dX0_isEmpty_11 : decode cX0_isEmpty 11 = .ok (.iconst 0, 1) := by decide +kernel
theorem dX0_isEmpty_12 : decode cX0_isEmpty 12 = .ok (.ireturn, 1) := by decide +kernel
theorem dX0_forgetAll_0 : decode cX0_forgetAll 0 = .ok (.aload_n 0, 1) := by decide +kernel
theorem dX0_forgetAll_1 : decode cX0_forgetAll 1 = .ok (.iconst 0, 1) := by decide +kernel
theorem dX0_forgetAll_2 : decode cX0_forgetAll 2 = .ok (.putfield 18, 3) := by decide +kernel
theorem dX0_forgetAll_5 : decode cX0_forgetAll 5 = .ok (.return_, 1) := by decide +kernel
theorem dX0_remember_0 : decode cX0_remember 0 = .ok (.aload_n 0, 1) := by decide +kernel
theorem dX0_remember_1 : decode cX0_remember 1 = .ok (.getfield 18, 3) := by decide +kernel
theorem dX0_remember_4 : decode cX0_remember 4 = .ok (.bipush 14, 2) := by decide +kernel
theorem dX0_remember_6 : decode cX0_remember 6 = .ok (.if_icmp .lt 7, 3) := by decide +kernel
theorem dX0_remember_9 : decode cX0_remember 9 = .ok (.aload_n 0, 1) := by decide +kernel
theorem dX0_remember_10 : decode cX0_remember 10 = .ok (.invokevirtual 22, 3) := by decide +kernel
theorem dX0_remember_13 : decode cX0_remember 13 = .ok (.aload_n 0, 1) := by decide +kernel
theorem dX0_remember_14 : decode cX0_remember 14 = .ok (.getfield 18, 3) := by decide +kernel
theorem dX0_remember_17 : decode cX0_remember 17 = .ok (.ifCond .lt 35, 3) := by decide +kernel
theorem dX0_remember_20 : decode cX0_remember 20 = .ok (.aload_n 0, 1) := by decide +kernel
theorem dX0_remember_21 : decode cX0_remember 21 = .ok (.getfield 18, 3) := by decide +kernel
theorem dX0_remember_24 : decode cX0_remember 24 = .ok (.bipush 14, 2) := by decide +kernel
theorem dX0_remember_26 : decode cX0_remember 26 = .ok (.if_icmp .ge 26, 3) := by decide +kernel
theorem dX0_remember_29 : decode cX0_remember 29 = .ok (.aload_n 0, 1) := by decide +kernel
theorem dX0_remember_30 : decode cX0_remember 30 = .ok (.getfield 11, 3) := by decide +kernel
theorem dX0_remember_33 : decode cX0_remember 33 = .ok (.aload_n 0, 1) := by decide +kernel
theorem dX0_remember_34 : decode cX0_remember 34 = .ok (.getfield 18, 3) := by decide +kernel
theorem dX0_remember_37 : decode cX0_remember 37 = .ok (.aaload, 1) := by decide +kernel
theorem dX0_remember_38 : decode cX0_remember 38 = .ok (.aload_n 1, 1) := by decide +kernel
theorem dX0_remember_39 : decode cX0_remember 39 = .ok (.invokevirtual 25, 3) := by decide +kernel
theorem dX0_remember_42 : decode cX0_remember 42 = .ok (.aload_n 0, 1) := by decide +kernel
theorem dX0_remember_43 : decode cX0_remember 43 = .ok (.dup, 1) := by decide +kernel
theorem dX0_remember_44 : decode cX0_remember 44 = .ok (.getfield 18, 3) := by decide +kernel
theorem dX0_remember_47 : decode cX0_remember 47 = .ok (.iconst 1, 1) := by decide +kernel
theorem dX0_remember_48 : decode cX0_remember 48 = .ok (.iadd, 1) := by decide +kernel
theorem dX0_remember_49 : decode cX0_remember 49 = .ok (.putfield 18, 3) := by decide +kernel
theorem dX0_remember_52 : decode cX0_remember 52 = .ok (.return_, 1) := by decide +kernel
theorem dX0_forgetOldest_0 : decode cX0_forgetOldest 0 = .ok (.aload_n 0, 1) := by decide +kernel
theorem dX0_forgetOldest_1 : decode cX0_forgetOldest 1 = .ok (.getfield 11, 3) := by decide +kernel
theorem dX0_forgetOldest_4 : decode cX0_forgetOldest 4 = .ok (.iconst 0, 1) := by decide +kernel
theorem dX0_forgetOldest_5 : decode cX0_forgetOldest 5 = .ok (.aaload, 1) := by decide +kernel
theorem dX0_forgetOldest_6 : decode cX0_forgetOldest 6 = .ok (.astore_n 1, 1) := by decide +kernel
theorem dX0_forgetOldest_7 : decode cX0_forgetOldest 7 = .ok (.iconst 1, 1) := by decide +kernel
theorem dX0_forgetOldest_8 : decode cX0_forgetOldest 8 = .ok (.istore_n 2, 1) := by decide +kernel
theorem dX0_forgetOldest_9 : decode cX0_forgetOldest 9 = .ok (.iload_n 2, 1) := by decide +kernel
theorem dX0_forgetOldest_10 : decode cX0_forgetOldest 10 = .ok (.bipush 14, 2) := by decide +kernel
theorem dX0_forgetOldest_12 : decode cX0_forgetOldest 12 = .ok (.if_icmp .ge 23, 3) := by decide +kernel
theorem dX0_forgetOldest_15 : decode cX0_forgetOldest 15 = .ok (.aload_n 0, 1) := by decide +kernel
theorem dX0_forgetOldest_16 : decode cX0_forgetOldest 16 = .ok (.getfield 11, 3) := by decide +kernel
theorem dX0_forgetOldest_19 : decode cX0_forgetOldest 19 = .ok (.iload_n 2, 1) := by decide +kernel
theorem dX0_forgetOldest_20 : decode cX0_forgetOldest 20 = .ok (.iconst 1, 1) := by decide +kernel
theorem dX0_forgetOldest_21 : decode cX0_forgetOldest 21 = .ok (.isub, 1) := by decide +kernel
theorem dX0_forgetOldest_22 : decode cX0_forgetOldest 22 = .ok (.aload_n 0, 1) := by decide +kernel
theorem dX0_forgetOldest_23 : decode cX0_forgetOldest 23 = .ok (.getfield 11, 3) := by decide +kernel
theorem dX0_forgetOldest_26 : decode cX0_forgetOldest 26 = .ok (.iload_n 2, 1) := by decide +kernel
theorem dX0_forgetOldest_27 : decode cX0_forgetOldest 27 = .ok (.aaload, 1) := by decide +kernel
theorem dX0_forgetOldest_28 : decode cX0_forgetOldest 28 = .ok (.aastore, 1) := by decide +kernel
theorem dX0_forgetOldest_29 : decode cX0_forgetOldest 29 = .ok (.iinc 2 1, 3) := by decide +kernel
theorem dX0_forgetOldest_32 : decode cX0_forgetOldest 32 = .ok (.goto (-23), 3) := by decide +kernel
theorem dX0_forgetOldest_35 : decode cX0_forgetOldest 35 = .ok (.aload_n 0, 1) := by decide +kernel
theorem dX0_forgetOldest_36 : decode cX0_forgetOldest 36 = .ok (.getfield 11, 3) := by decide +kernel
theorem dX0_forgetOldest_39 : decode cX0_forgetOldest 39 = .ok (.bipush 13, 2) := by decide +kernel
theorem dX0_forgetOldest_41 : decode cX0_forgetOldest 41 = .ok (.aload_n 1, 1) := by decide +kernel
theorem dX0_forgetOldest_42 : decode cX0_forgetOldest 42 = .ok (.aastore, 1) := by decide +kernel
theorem dX0_forgetOldest_43 : decode cX0_forgetOldest 43 = .ok (.aload_n 0, 1) := by decide +kernel
theorem dX0_forgetOldest_44 : decode cX0_forgetOldest 44 = .ok (.bipush 13, 2) := by decide +kernel
theorem dX0_forgetOldest_46 : decode cX0_forgetOldest 46 = .ok (.putfield 18, 3) := by decide +kernel
theorem dX0_forgetOldest_49 : decode cX0_forgetOldest 49 = .ok (.return_, 1) := by decide +kernel
theorem dX0_takeBackInto_0 : decode cX0_takeBackInto 0 = .ok (.aload_n 0, 1) := by decide +kernel
theorem dX0_takeBackInto_1 : decode cX0_takeBackInto 1 = .ok (.getfield 18, 3) := by decide +kernel
theorem dX0_takeBackInto_4 : decode cX0_takeBackInto 4 = .ok (.iconst 1, 1) := by decide +kernel
theorem dX0_takeBackInto_5 : decode cX0_takeBackInto 5 = .ok (.isub, 1) := by decide +kernel
theorem dX0_takeBackInto_6 : decode cX0_takeBackInto 6 = .ok (.istore_n 2, 1) := by decide +kernel
theorem dX0_takeBackInto_7 : decode cX0_takeBackInto 7 = .ok (.iload_n 2, 1) := by decide +kernel
theorem dX0_takeBackInto_8 : decode cX0_takeBackInto 8 = .ok (.ifCond .lt 24, 3) := by decide +kernel
theorem dX0_takeBackInto_11 : decode cX0_takeBackInto 11 = .ok (.iload_n 2, 1) := by decide +kernel
theorem dX0_takeBackInto_12 : decode cX0_takeBackInto 12 = .ok (.bipush 14, 2) := by decide +kernel
theorem dX0_takeBackInto_14 : decode cX0_takeBackInto 14 = .ok (.if_icmp .ge 18, 3) := by decide +kernel
theorem dX0_takeBackInto_17 : decode cX0_takeBackInto 17 = .ok (.aload_n 1, 1) := by decide +kernel
theorem dX0_takeBackInto_18 : decode cX0_takeBackInto 18 = .ok (.aload_n 0, 1) := by decide +kernel
theorem dX0_takeBackInto_19 : decode cX0_takeBackInto 19 = .ok (.getfield 11, 3) := by decide +kernel
theorem dX0_takeBackInto_22 : decode cX0_takeBackInto 22 = .ok (.iload_n 2, 1) := by decide +kernel
theorem dX0_takeBackInto_23 : decode cX0_takeBackInto 23 = .ok (.aaload, 1) := by decide +kernel
theorem dX0_takeBackInto_24 : decode cX0_takeBackInto 24 = .ok (.invokevirtual 25, 3) := by decide +kernel
theorem dX0_takeBackInto_27 : decode cX0_takeBackInto 27 = .ok (.aload_n 0, 1) := by decide +kernel
theorem dX0_takeBackInto_28 : decode cX0_takeBackInto 28 = .ok (.iload_n 2, 1) := by decide +kernel
theorem dX0_takeBackInto_29 : decode cX0_takeBackInto 29 = .ok (.putfield 18, 3) := by decide +kernel
theorem dX0_takeBackInto_32 : decode cX0_takeBackInto 32 = .ok (.return_, 1) := by decide +kernel
theorem dX1_init_0 : decode cX1_init 0 = .ok (.aload_n 0, 1) := by decide +kernel
theorem dX1_init_1 : decode cX1_init 1 = .ok (.invokespecial 3, 3) := by decide +kernel
theorem dX1_init_4 : decode cX1_init 4 = .ok (.aload_n 0, 1) := by decide +kernel
theorem dX1_init_5 : decode cX1_init 5 = .ok (.bipush 26, 2) := by decide +kernel
theorem dX1_init_7 : decode cX1_init 7 = .ok (.newarray .int, 2) := by decide +kernel
theorem dX1_init_9 : decode cX1_init 9 = .ok (.putfield 9, 3) := by decide +kernel
theorem dX1_init_12 : decode cX1_init 12 = .ok (.aload_n 0, 1) := by decide +kernel
theorem dX1_init_13 : decode cX1_init 13 = .ok (.bipush 26, 2) := by decide +kernel
theorem dX1_init_15 : decode cX1_init 15 = .ok (.newarray .int, 2) := by decide +kernel
theorem dX1_init_17 : decode cX1_init 17 = .ok (.putfield 15, 3) := by decide +kernel
theorem dX1_init_20 : decode cX1_init 20 = .ok (.aload_n 0, 1) := by decide +kernel
theorem dX1_init_21 : decode cX1_init 21 = .ok (.bipush 26, 2) := by decide +kernel
theorem dX1_init_23 : decode cX1_init 23 = .ok (.newarray .int, 2) := by decide +kernel
theorem dX1_init_25 : decode cX1_init 25 = .ok (.putfield 18, 3) := by decide +kernel
theorem dX1_init_28 : decode cX1_init 28 = .ok (.return_, 1) := by decide +kernel
theorem dX1_copyFrom_0 : decode cX1_copyFrom 0 = .ok (.aload_n 1, 1) := by decide +kernel
theorem dX1_copyFrom_1 : decode cX1_copyFrom 1 = .ok (.getfield 9, 3) := by decide +kernel
theorem dX1_copyFrom_4 : decode cX1_copyFrom 4 = .ok (.iconst 0, 1) := by decide +kernel
theorem dX1_copyFrom_5 : decode cX1_copyFrom 5 = .ok (.aload_n 0, 1) := by decide +kernel
theorem dX1_copyFrom_6 : decode cX1_copyFrom 6 = .ok (.getfield 9, 3) := by decide +kernel
theorem dX1_copyFrom_9 : decode cX1_copyFrom 9 = .ok (.iconst 0, 1) := by decide +kernel
theorem dX1_copyFrom_10 : decode cX1_copyFrom 10 = .ok (.bipush 26, 2) := by decide +kernel
theorem dX1_copyFrom_12 : decode cX1_copyFrom 12 = .ok (.invokestatic 21, 3) := by decide +kernel
theorem dX1_copyFrom_15 : decode cX1_copyFrom 15 = .ok (.aload_n 1, 1) := by decide +kernel
theorem dX1_copyFrom_16 : decode cX1_copyFrom 16 = .ok (.getfield 15, 3) := by decide +kernel
theorem dX1_copyFrom_19 : decode cX1_copyFrom 19 = .ok (.iconst 0, 1) := by decide +kernel
theorem dX1_copyFrom_20 : decode cX1_copyFrom 20 = .ok (.aload_n 0, 1) := by decide +kernel
theorem dX1_copyFrom_21 : decode cX1_copyFrom 21 = .ok (.getfield 15, 3) := by decide +kernel
theorem dX1_copyFrom_24 : decode cX1_copyFrom 24 = .ok (.iconst 0, 1) := by decide +kernel
theorem dX1_copyFrom_25 : decode cX1_copyFrom 25 = .ok (.bipush 26, 2) := by decide +kernel
theorem dX1_copyFrom_27 : decode cX1_copyFrom 27 = .ok (.invokestatic 21, 3) := by decide +kernel
theorem dX1_copyFrom_30 : decode cX1_copyFrom 30 = .ok (.aload_n 1, 1) := by decide +kernel
theorem dX1_copyFrom_31 : decode cX1_copyFrom 31 = .ok (.getfield 18, 3) := by decide +kernel
theorem dX1_copyFrom_34 : decode cX1_copyFrom 34 = .ok (.iconst 0, 1) := by decide +kernel
theorem dX1_copyFrom_35 : decode cX1_copyFrom 35 = .ok (.aload_n 0, 1) := by decide +kernel
theorem dX1_copyFrom_36 : decode cX1_copyFrom 36 = .ok (.getfield 18, 3) := by decide +kernel
theorem dX1_copyFrom_39 : decode cX1_copyFrom 39 = .ok (.iconst 0, 1) := by decide +kernel
theorem dX1_copyFrom_40 : decode cX1_copyFrom 40 = .ok (.bipush 26, 2) := by decide +kernel
theorem dX1_copyFrom_42 : decode cX1_copyFrom 42 = .ok (.invokestatic 21, 3) := by decide +kernel
theorem dX1_copyFrom_45 : decode cX1_copyFrom 45 = .ok (.aload_n 0, 1) := by decide +kernel
theorem dX1_copyFrom_46 : decode cX1_copyFrom 46 = .ok (.aload_n 1, 1) := by decide +kernel
theorem dX1_copyFrom_47 : decode cX1_copyFrom 47 = .ok (.getfield 27, 3) := by decide +kernel
theorem dX1_copyFrom_50 : decode cX1_copyFrom 50 = .ok (.putfield 27, 3) := by decide +kernel
theorem dX1_copyFrom_53 : decode cX1_copyFrom 53 = .ok (.return_, 1) := by decide +kernel
theorem dX1_hasWay_0 : decode cX1_hasWay 0 = .ok (.iload_n 1, 1) := by decide +kernel
theorem dX1_hasWay_1 : decode cX1_hasWay 1 = .ok (.ifCond .lt 21, 3) := by decide +kernel
theorem dX1_hasWay_4 : decode cX1_hasWay 4 = .ok (.iload_n 1, 1) := by decide +kernel
theorem dX1_hasWay_5 : decode cX1_hasWay 5 = .ok (.aload_n 0, 1) := by decide +kernel
theorem dX1_hasWay_6 : decode cX1_hasWay 6 = .ok (.getfield 27, 3) := by decide +kernel
theorem dX1_hasWay_9 : decode cX1_hasWay 9 = .ok (.if_icmp .ge 13, 3) := by decide +kernel
theorem dX1_hasWay_12 : decode cX1_hasWay 12 = .ok (.iload_n 1, 1) := by decide +kernel
theorem dX1_hasWay_13 : decode cX1_hasWay 13 = .ok (.bipush 26, 2) := by decide +kernel
theorem dX1_hasWay_15 : decode cX1_hasWay 15 = .ok (.if_icmp .ge 7, 3) := by decide +kernel
theorem dX1_hasWay_18 : decode cX1_hasWay 18 = .ok (.iconst 1, 1) := by decide +kernel
theorem dX1_hasWay_19 : decode cX1_hasWay 19 = .ok (.goto 4, 3) := by decide +kernel
theorem dX1_hasWay_22 : decode cX1_hasWay 22 = .ok (.iconst 0, 1) := by decide +kernel
theorem dX1_hasWay_23 : decode cX1_hasWay 23 = .ok (.ireturn, 1) := by decide +kernel
theorem dX1_note_0 : decode cX1_note 0 = .ok (.iconst 0, 1) := by decide +kernel
theorem dX1_note_1 : decode cX1_note 1 = .ok (.istore 4, 2) := by decide +kernel
theorem dX1_note_3 : decode cX1_note 3 = .ok (.iload 4, 2) := by decide +kernel
theorem dX1_note_5 : decode cX1_note 5 = .ok (.aload_n 0, 1) := by decide +kernel
theorem dX1_note_6 : decode cX1_note 6 = .ok (.getfield 27, 3) := by decide +kernel
theorem dX1_note_9 : decode cX1_note 9 = .ok (.if_icmp .ge 50, 3) := by decide +kernel
theorem dX1_note_12 : decode cX1_note 12 = .ok (.iload 4, 2) := by decide +kernel
theorem dX1_note_14 : decode cX1_note 14 = .ok (.bipush 26, 2) := by decide +kernel
theorem dX1_note_16 : decode cX1_note 16 = .ok (.if_icmp .ge 43, 3) := by decide +kernel
theorem dX1_note_19 : decode cX1_note 19 = .ok (.aload_n 0, 1) := by decide +kernel
theorem dX1_note_20 : decode cX1_note 20 = .ok (.getfield 9, 3) := by decide +kernel
theorem dX1_note_23 : decode cX1_note 23 = .ok (.iload 4, 2) := by decide +kernel
theorem dX1_note_25 : decode cX1_note 25 = .ok (.iaload, 1) := by decide +kernel
theorem dX1_note_26 : decode cX1_note 26 = .ok (.iload_n 1, 1) := by decide +kernel
theorem dX1_note_27 : decode cX1_note 27 = .ok (.if_icmp .ne 26, 3) := by decide +kernel
theorem dX1_note_30 : decode cX1_note 30 = .ok (.aload_n 0, 1) := by decide +kernel
theorem dX1_note_31 : decode cX1_note 31 = .ok (.getfield 15, 3) := by decide +kernel
theorem dX1_note_34 : decode cX1_note 34 = .ok (.iload 4, 2) := by decide +kernel
theorem dX1_note_36 : decode cX1_note 36 = .ok (.iaload, 1) := by decide +kernel
theorem dX1_note_37 : decode cX1_note 37 = .ok (.iload_n 2, 1) := by decide +kernel
theorem dX1_note_38 : decode cX1_note 38 = .ok (.if_icmp .ne 15, 3) := by decide +kernel
theorem dX1_note_41 : decode cX1_note 41 = .ok (.aload_n 0, 1) := by decide +kernel
theorem dX1_note_42 : decode cX1_note 42 = .ok (.getfield 18, 3) := by decide +kernel
theorem dX1_note_45 : decode cX1_note 45 = .ok (.iload 4, 2) := by decide +kernel
theorem dX1_note_47 : decode cX1_note 47 = .ok (.dup2, 1) := by decide +kernel
theorem dX1_note_48 : decode cX1_note 48 = .ok (.iaload, 1) := by decide +kernel
theorem dX1_note_49 : decode cX1_note 49 = .ok (.iload_n 3, 1) := by decide +kernel
theorem dX1_note_50 : decode cX1_note 50 = .ok (.iadd, 1) := by decide +kernel
theorem dX1_note_51 : decode cX1_note 51 = .ok (.iastore, 1) := by decide +kernel
theorem dX1_note_52 : decode cX1_note 52 = .ok (.return_, 1) := by decide +kernel
theorem dX1_note_53 : decode cX1_note 53 = .ok (.iinc 4 1, 3) := by decide +kernel
theorem dX1_note_56 : decode cX1_note 56 = .ok (.goto (-53), 3) := by decide +kernel
theorem dX1_note_59 : decode cX1_note 59 = .ok (.aload_n 0, 1) := by decide +kernel
theorem dX1_note_60 : decode cX1_note 60 = .ok (.getfield 27, 3) := by decide +kernel
theorem dX1_note_63 : decode cX1_note 63 = .ok (.ifCond .lt 52, 3) := by decide +kernel
theorem dX1_note_66 : decode cX1_note 66 = .ok (.aload_n 0, 1) := by decide +kernel
theorem dX1_note_67 : decode cX1_note 67 = .ok (.getfield 27, 3) := by decide +kernel
theorem dX1_note_70 : decode cX1_note 70 = .ok (.bipush 26, 2) := by decide +kernel
theorem dX1_note_72 : decode cX1_note 72 = .ok (.if_icmp .ge 43, 3) := by decide +kernel
theorem dX1_note_75 : decode cX1_note 75 = .ok (.aload_n 0, 1) := by decide +kernel
theorem dX1_note_76 : decode cX1_note 76 = .ok (.getfield 9, 3) := by decide +kernel
theorem dX1_note_79 : decode cX1_note 79 = .ok (.aload_n 0, 1) := by decide +kernel
theorem dX1_note_80 : decode cX1_note 80 = .ok (.getfield 27, 3) := by decide +kernel
theorem dX1_note_83 : decode cX1_note 83 = .ok (.iload_n 1, 1) := by decide +kernel
theorem dX1_note_84 : decode cX1_note 84 = .ok (.iastore, 1) := by decide +kernel
theorem dX1_note_85 : decode cX1_note 85 = .ok (.aload_n 0, 1) := by decide +kernel
theorem dX1_note_86 : decode cX1_note 86 = .ok (.getfield 15, 3) := by decide +kernel
theorem dX1_note_89 : decode cX1_note 89 = .ok (.aload_n 0, 1) := by decide +kernel
theorem dX1_note_90 : decode cX1_note 90 = .ok (.getfield 27, 3) := by decide +kernel
theorem dX1_note_93 : decode cX1_note 93 = .ok (.iload_n 2, 1) := by decide +kernel
theorem dX1_note_94 : decode cX1_note 94 = .ok (.iastore, 1) := by decide +kernel
theorem dX1_note_95 : decode cX1_note 95 = .ok (.aload_n 0, 1) := by decide +kernel
theorem dX1_note_96 : decode cX1_note 96 = .ok (.getfield 18, 3) := by decide +kernel
theorem dX1_note_99 : decode cX1_note 99 = .ok (.aload_n 0, 1) := by decide +kernel
theorem dX1_note_100 : decode cX1_note 100 = .ok (.getfield 27, 3) := by decide +kernel
theorem dX1_note_103 : decode cX1_note 103 = .ok (.iload_n 3, 1) := by decide +kernel
theorem dX1_note_104 : decode cX1_note 104 = .ok (.iastore, 1) := by decide +kernel
theorem dX1_note_105 : decode cX1_note 105 = .ok (.aload_n 0, 1) := by decide +kernel
theorem dX1_note_106 : decode cX1_note 106 = .ok (.dup, 1) := by decide +kernel
theorem dX1_note_107 : decode cX1_note 107 = .ok (.getfield 27, 3) := by decide +kernel
theorem dX1_note_110 : decode cX1_note 110 = .ok (.iconst 1, 1) := by decide +kernel
theorem dX1_note_111 : decode cX1_note 111 = .ok (.iadd, 1) := by decide +kernel
theorem dX1_note_112 : decode cX1_note 112 = .ok (.putfield 27, 3) := by decide +kernel
theorem dX1_note_115 : decode cX1_note 115 = .ok (.return_, 1) := by decide +kernel
theorem dX1_sumBetween_0 : decode cX1_sumBetween 0 = .ok (.iconst 0, 1) := by decide +kernel
theorem dX1_sumBetween_1 : decode cX1_sumBetween 1 = .ok (.istore_n 3, 1) := by decide +kernel
theorem dX1_sumBetween_2 : decode cX1_sumBetween 2 = .ok (.iload_n 3, 1) := by decide +kernel
theorem dX1_sumBetween_3 : decode cX1_sumBetween 3 = .ok (.aload_n 0, 1) := by decide +kernel
theorem dX1_sumBetween_4 : decode cX1_sumBetween 4 = .ok (.getfield 27, 3) := by decide +kernel
theorem dX1_sumBetween_7 : decode cX1_sumBetween 7 = .ok (.if_icmp .ge 42, 3) := by decide +kernel
theorem dX1_sumBetween_10 : decode cX1_sumBetween 10 = .ok (.iload_n 3, 1) := by decide +kernel
theorem dX1_sumBetween_11 : decode cX1_sumBetween 11 = .ok (.bipush 26, 2) := by decide +kernel
theorem dX1_sumBetween_13 : decode cX1_sumBetween 13 = .ok (.if_icmp .ge 36, 3) := by decide +kernel
theorem dX1_sumBetween_16 : decode cX1_sumBetween 16 = .ok (.aload_n 0, 1) := by decide +kernel
theorem dX1_sumBetween_17 : decode cX1_sumBetween 17 = .ok (.getfield 9, 3) := by decide +kernel
theorem dX1_sumBetween_20 : decode cX1_sumBetween 20 = .ok (.iload_n 3, 1) := by decide +kernel
theorem dX1_sumBetween_21 : decode cX1_sumBetween 21 = .ok (.iaload, 1) := by decide +kernel
theorem dX1_sumBetween_22 : decode cX1_sumBetween 22 = .ok (.iload_n 1, 1) := by decide +kernel
theorem dX1_sumBetween_23 : decode cX1_sumBetween 23 = .ok (.if_icmp .ne 20, 3) := by decide +kernel
theorem dX1_sumBetween_26 : decode cX1_sumBetween 26 = .ok (.aload_n 0, 1) := by decide +kernel
theorem dX1_sumBetween_27 : decode cX1_sumBetween 27 = .ok (.getfield 15, 3) := by decide +kernel
theorem dX1_sumBetween_30 : decode cX1_sumBetween 30 = .ok (.iload_n 3, 1) := by decide +kernel
theorem dX1_sumBetween_31 : decode cX1_sumBetween 31 = .ok (.iaload, 1) := by decide +kernel
theorem dX1_sumBetween_32 : decode cX1_sumBetween 32 = .ok (.iload_n 2, 1) := by decide +kernel
theorem dX1_sumBetween_33 : decode cX1_sumBetween 33 = .ok (.if_icmp .ne 10, 3) := by decide +kernel
theorem dX1_sumBetween_36 : decode cX1_sumBetween 36 = .ok (.aload_n 0, 1) := by decide +kernel
theorem dX1_sumBetween_37 : decode cX1_sumBetween 37 = .ok (.getfield 18, 3) := by decide +kernel
theorem dX1_sumBetween_40 : decode cX1_sumBetween 40 = .ok (.iload_n 3, 1) := by decide +kernel
theorem dX1_sumBetween_41 : decode cX1_sumBetween 41 = .ok (.iaload, 1) := by decide +kernel
theorem dX1_sumBetween_42 : decode cX1_sumBetween 42 = .ok (.ireturn, 1) := by decide +kernel
theorem dX1_sumBetween_43 : decode cX1_sumBetween 43 = .ok (.iinc 3 1, 3) := by decide +kernel
theorem dX1_sumBetween_46 : decode cX1_sumBetween 46 = .ok (.goto (-44), 3) := by decide +kernel
theorem dX1_sumBetween_49 : decode cX1_sumBetween 49 = .ok (.iconst 0, 1) := by decide +kernel
theorem dX1_sumBetween_50 : decode cX1_sumBetween 50 = .ok (.ireturn, 1) := by decide +kernel
theorem dX2_init_0 : decode cX2_init 0 = .ok (.aload_n 0, 1) := by decide +kernel
theorem dX2_init_1 : decode cX2_init 1 = .ok (.invokespecial 1, 3) := by decide +kernel
theorem dX2_init_4 : decode cX2_init 4 = .ok (.return_, 1) := by decide +kernel
theorem dX2_copyFrom_0 : decode cX2_copyFrom 0 = .ok (.aload_n 0, 1) := by decide +kernel
theorem dX2_copyFrom_1 : decode cX2_copyFrom 1 = .ok (.aload_n 1, 1) := by decide +kernel
theorem dX2_copyFrom_2 : decode cX2_copyFrom 2 = .ok (.getfield 7, 3) := by decide +kernel
theorem dX2_copyFrom_5 : decode cX2_copyFrom 5 = .ok (.putfield 7, 3) := by decide +kernel
theorem dX2_copyFrom_8 : decode cX2_copyFrom 8 = .ok (.aload_n 0, 1) := by decide +kernel
theorem dX2_copyFrom_9 : decode cX2_copyFrom 9 = .ok (.aload_n 1, 1) := by decide +kernel
theorem dX2_copyFrom_10 : decode cX2_copyFrom 10 = .ok (.getfield 13, 3) := by decide +kernel
theorem dX2_copyFrom_13 : decode cX2_copyFrom 13 = .ok (.putfield 13, 3) := by decide +kernel
theorem dX2_copyFrom_16 : decode cX2_copyFrom 16 = .ok (.aload_n 0, 1) := by decide +kernel
theorem dX2_copyFrom_17 : decode cX2_copyFrom 17 = .ok (.aload_n 1, 1) := by decide +kernel
theorem dX2_copyFrom_18 : decode cX2_copyFrom 18 = .ok (.getfield 16, 3) := by decide +kernel
theorem dX2_copyFrom_21 : decode cX2_copyFrom 21 = .ok (.putfield 16, 3) := by decide +kernel
theorem dX2_copyFrom_24 : decode cX2_copyFrom 24 = .ok (.aload_n 0, 1) := by decide +kernel
theorem dX2_copyFrom_25 : decode cX2_copyFrom 25 = .ok (.aload_n 1, 1) := by decide +kernel
theorem dX2_copyFrom_26 : decode cX2_copyFrom 26 = .ok (.getfield 19, 3) := by decide +kernel
theorem dX2_copyFrom_29 : decode cX2_copyFrom 29 = .ok (.putfield 19, 3) := by decide +kernel
theorem dX2_copyFrom_32 : decode cX2_copyFrom 32 = .ok (.aload_n 0, 1) := by decide +kernel
theorem dX2_copyFrom_33 : decode cX2_copyFrom 33 = .ok (.aload_n 1, 1) := by decide +kernel
theorem dX2_copyFrom_34 : decode cX2_copyFrom 34 = .ok (.getfield 23, 3) := by decide +kernel
theorem dX2_copyFrom_37 : decode cX2_copyFrom 37 = .ok (.putfield 23, 3) := by decide +kernel
theorem dX2_copyFrom_40 : decode cX2_copyFrom 40 = .ok (.aload_n 0, 1) := by decide +kernel
theorem dX2_copyFrom_41 : decode cX2_copyFrom 41 = .ok (.aload_n 1, 1) := by decide +kernel
theorem dX2_copyFrom_42 : decode cX2_copyFrom 42 = .ok (.getfield 26, 3) := by decide +kernel
theorem dX2_copyFrom_45 : decode cX2_copyFrom 45 = .ok (.putfield 26, 3) := by decide +kernel
theorem dX2_copyFrom_48 : decode cX2_copyFrom 48 = .ok (.aload_n 0, 1) := by decide +kernel
theorem dX2_copyFrom_49 : decode cX2_copyFrom 49 = .ok (.aload_n 1, 1) := by decide +kernel
theorem dX2_copyFrom_50 : decode cX2_copyFrom 50 = .ok (.getfield 29, 3) := by decide +kernel
theorem dX2_copyFrom_53 : decode cX2_copyFrom 53 = .ok (.putfield 29, 3) := by decide +kernel
theorem dX2_copyFrom_56 : decode cX2_copyFrom 56 = .ok (.return_, 1) := by decide +kernel
theorem dX2_begin_0 : decode cX2_begin 0 = .ok (.aload_n 0, 1) := by decide +kernel
theorem dX2_begin_1 : decode cX2_begin 1 = .ok (.iload_n 1, 1) := by decide +kernel
theorem dX2_begin_2 : decode cX2_begin 2 = .ok (.putfield 7, 3) := by decide +kernel
theorem dX2_begin_5 : decode cX2_begin 5 = .ok (.aload_n 0, 1) := by decide +kernel
theorem dX2_begin_6 : decode cX2_begin 6 = .ok (.iload_n 2, 1) := by decide +kernel
theorem dX2_begin_7 : decode cX2_begin 7 = .ok (.putfield 13, 3) := by decide +kernel
theorem dX2_begin_10 : decode cX2_begin 10 = .ok (.aload_n 0, 1) := by decide +kernel
theorem dX2_begin_11 : decode cX2_begin 11 = .ok (.iload_n 3, 1) := by decide +kernel
theorem dX2_begin_12 : decode cX2_begin 12 = .ok (.putfield 16, 3) := by decide +kernel
theorem dX2_begin_15 : decode cX2_begin 15 = .ok (.aload_n 0, 1) := by decide +kernel
theorem dX2_begin_16 : decode cX2_begin 16 = .ok (.iconst 0, 1) := by decide +kernel
theorem dX2_begin_17 : decode cX2_begin 17 = .ok (.putfield 19, 3) := by decide +kernel
theorem dX2_begin_20 : decode cX2_begin 20 = .ok (.aload_n 0, 1) := by decide +kernel
theorem dX2_begin_21 : decode cX2_begin 21 = .ok (.iconst 0, 1) := by decide +kernel
theorem dX2_begin_22 : decode cX2_begin 22 = .ok (.putfield 23, 3) := by decide +kernel
theorem dX2_begin_25 : decode cX2_begin 25 = .ok (.aload_n 0, 1) := by decide +kernel
theorem dX2_begin_26 : decode cX2_begin 26 = .ok (.iconst 0, 1) := by decide +kernel
theorem dX2_begin_27 : decode cX2_begin 27 = .ok (.putfield 26, 3) := by decide +kernel
theorem dX2_begin_30 : decode cX2_begin 30 = .ok (.aload_n 0, 1) := by decide +kernel
theorem dX2_begin_31 : decode cX2_begin 31 = .ok (.iconst 0, 1) := by decide +kernel
theorem dX2_begin_32 : decode cX2_begin 32 = .ok (.putfield 29, 3) := by decide +kernel
theorem dX2_begin_35 : decode cX2_begin 35 = .ok (.return_, 1) := by decide +kernel
theorem dX2_change_0 : decode cX2_change 0 = .ok (.iload_n 1, 1) := by decide +kernel
theorem dX2_change_1 : decode cX2_change 1 = .ok (.ifCond .ne 16, 3) := by decide +kernel
theorem dX2_change_4 : decode cX2_change 4 = .ok (.aload_n 0, 1) := by decide +kernel
theorem dX2_change_5 : decode cX2_change 5 = .ok (.getfield 7, 3) := by decide +kernel
theorem dX2_change_8 : decode cX2_change 8 = .ok (.istore_n 3, 1) := by decide +kernel
theorem dX2_change_9 : decode cX2_change 9 = .ok (.aload_n 0, 1) := by decide +kernel
theorem dX2_change_10 : decode cX2_change 10 = .ok (.iload_n 2, 1) := by decide +kernel
theorem dX2_change_11 : decode cX2_change 11 = .ok (.putfield 7, 3) := by decide +kernel
theorem dX2_change_14 : decode cX2_change 14 = .ok (.goto 31, 3) := by decide +kernel
theorem dX2_change_17 : decode cX2_change 17 = .ok (.iload_n 1, 1) := by decide +kernel
theorem dX2_change_18 : decode cX2_change 18 = .ok (.iconst 1, 1) := by decide +kernel
theorem dX2_change_19 : decode cX2_change 19 = .ok (.if_icmp .ne 16, 3) := by decide +kernel
theorem dX2_change_22 : decode cX2_change 22 = .ok (.aload_n 0, 1) := by decide +kernel
theorem dX2_change_23 : decode cX2_change 23 = .ok (.getfield 13, 3) := by decide +kernel
theorem dX2_change_26 : decode cX2_change 26 = .ok (.istore_n 3, 1) := by decide +kernel
theorem dX2_change_27 : decode cX2_change 27 = .ok (.aload_n 0, 1) := by decide +kernel
theorem dX2_change_28 : decode cX2_change 28 = .ok (.iload_n 2, 1) := by decide +kernel
theorem dX2_change_29 : decode cX2_change 29 = .ok (.putfield 13, 3) := by decide +kernel
theorem dX2_change_32 : decode cX2_change 32 = .ok (.goto 13, 3) := by decide +kernel
theorem dX2_change_35 : decode cX2_change 35 = .ok (.aload_n 0, 1) := by decide +kernel
theorem dX2_change_36 : decode cX2_change 36 = .ok (.getfield 16, 3) := by decide +kernel
theorem dX2_change_39 : decode cX2_change 39 = .ok (.istore_n 3, 1) := by decide +kernel
theorem dX2_change_40 : decode cX2_change 40 = .ok (.aload_n 0, 1) := by decide +kernel
theorem dX2_change_41 : decode cX2_change 41 = .ok (.iload_n 2, 1) := by decide +kernel
theorem dX2_change_42 : decode cX2_change 42 = .ok (.putfield 16, 3) := by decide +kernel
theorem dX2_change_45 : decode cX2_change 45 = .ok (.iload_n 3, 1) := by decide +kernel
theorem dX2_change_46 : decode cX2_change 46 = .ok (.ireturn, 1) := by decide +kernel
theorem dX2_judge_0 : decode cX2_judge 0 = .ok (.iload_n 1, 1) := by decide +kernel
theorem dX2_judge_1 : decode cX2_judge 1 = .ok (.aload_n 0, 1) := by decide +kernel
theorem dX2_judge_2 : decode cX2_judge 2 = .ok (.getfield 7, 3) := by decide +kernel
theorem dX2_judge_5 : decode cX2_judge 5 = .ok (.iconst 1, 1) := by decide +kernel
theorem dX2_judge_6 : decode cX2_judge 6 = .ok (.isub, 1) := by decide +kernel
theorem dX2_judge_7 : decode cX2_judge 7 = .ok (.if_icmp .ge 16, 3) := by decide +kernel
theorem dX2_judge_10 : decode cX2_judge 10 = .ok (.aload_n 0, 1) := by decide +kernel
theorem dX2_judge_11 : decode cX2_judge 11 = .ok (.dup, 1) := by decide +kernel
theorem dX2_judge_12 : decode cX2_judge 12 = .ok (.getfield 26, 3) := by decide +kernel
theorem dX2_judge_15 : decode cX2_judge 15 = .ok (.iconst 1, 1) := by decide +kernel
theorem dX2_judge_16 : decode cX2_judge 16 = .ok (.iadd, 1) := by decide +kernel
theorem dX2_judge_17 : decode cX2_judge 17 = .ok (.putfield 26, 3) := by decide +kernel
theorem dX2_judge_20 : decode cX2_judge 20 = .ok (.goto 36, 3) := by decide +kernel
theorem dX2_judge_23 : decode cX2_judge 23 = .ok (.iload_n 1, 1) := by decide +kernel
theorem dX2_judge_24 : decode cX2_judge 24 = .ok (.aload_n 0, 1) := by decide +kernel
theorem dX2_judge_25 : decode cX2_judge 25 = .ok (.getfield 7, 3) := by decide +kernel
theorem dX2_judge_28 : decode cX2_judge 28 = .ok (.iconst 2, 1) := by decide +kernel
theorem dX2_judge_29 : decode cX2_judge 29 = .ok (.iadd, 1) := by decide +kernel
theorem dX2_judge_30 : decode cX2_judge 30 = .ok (.if_icmp .le 16, 3) := by decide +kernel
theorem dX2_judge_33 : decode cX2_judge 33 = .ok (.aload_n 0, 1) := by decide +kernel
theorem dX2_judge_34 : decode cX2_judge 34 = .ok (.dup, 1) := by decide +kernel
theorem dX2_judge_35 : decode cX2_judge 35 = .ok (.getfield 29, 3) := by decide +kernel
theorem dX2_judge_38 : decode cX2_judge 38 = .ok (.iconst 1, 1) := by decide +kernel
theorem dX2_judge_39 : decode cX2_judge 39 = .ok (.iadd, 1) := by decide +kernel
theorem dX2_judge_40 : decode cX2_judge 40 = .ok (.putfield 29, 3) := by decide +kernel
theorem dX2_judge_43 : decode cX2_judge 43 = .ok (.goto 13, 3) := by decide +kernel
theorem dX2_judge_46 : decode cX2_judge 46 = .ok (.aload_n 0, 1) := by decide +kernel
theorem dX2_judge_47 : decode cX2_judge 47 = .ok (.dup, 1) := by decide +kernel
theorem dX2_judge_48 : decode cX2_judge 48 = .ok (.getfield 23, 3) := by decide +kernel
theorem dX2_judge_51 : decode cX2_judge 51 = .ok (.iconst 1, 1) := by decide +kernel
theorem dX2_judge_52 : decode cX2_judge 52 = .ok (.iadd, 1) := by decide +kernel
theorem dX2_judge_53 : decode cX2_judge 53 = .ok (.putfield 23, 3) := by decide +kernel
theorem dX2_judge_56 : decode cX2_judge 56 = .ok (.return_, 1) := by decide +kernel
theorem dX3_init_0 : decode cX3_init 0 = .ok (.aload_n 0, 1) := by decide +kernel
theorem dX3_init_1 : decode cX3_init 1 = .ok (.invokespecial 3, 3) := by decide +kernel
theorem dX3_init_4 : decode cX3_init 4 = .ok (.aload_n 0, 1) := by decide +kernel
theorem dX3_init_5 : decode cX3_init 5 = .ok (.bipush 9, 2) := by decide +kernel
theorem dX3_init_7 : decode cX3_init 7 = .ok (.newarray .int, 2) := by decide +kernel
theorem dX3_init_9 : decode cX3_init 9 = .ok (.putfield 9, 3) := by decide +kernel
theorem dX3_init_12 : decode cX3_init 12 = .ok (.aload_n 0, 1) := by decide +kernel
theorem dX3_init_13 : decode cX3_init 13 = .ok (.bipush 8, 2) := by decide +kernel
theorem dX3_init_15 : decode cX3_init 15 = .ok (.newarray .int, 2) := by decide +kernel
theorem dX3_init_17 : decode cX3_init 17 = .ok (.putfield 15, 3) := by decide +kernel
theorem dX3_init_20 : decode cX3_init 20 = .ok (.aload_n 0, 1) := by decide +kernel
theorem dX3_init_21 : decode cX3_init 21 = .ok (.bipush 8, 2) := by decide +kernel
theorem dX3_init_23 : decode cX3_init 23 = .ok (.newarray .int, 2) := by decide +kernel
theorem dX3_init_25 : decode cX3_init 25 = .ok (.putfield 18, 3) := by decide +kernel
theorem dX3_init_28 : decode cX3_init 28 = .ok (.aload_n 0, 1) := by decide +kernel
theorem dX3_init_29 : decode cX3_init 29 = .ok (.bipush 6, 2) := by decide +kernel
theorem dX3_init_31 : decode cX3_init 31 = .ok (.anewarray 21, 3) := by decide +kernel
theorem dX3_init_34 : decode cX3_init 34 = .ok (.putfield 23, 3) := by decide +kernel
theorem dX3_init_37 : decode cX3_init 37 = .ok (.aload_n 0, 1) := by decide +kernel
theorem dX3_init_38 : decode cX3_init 38 = .ok (.new 27, 3) := by decide +kernel
theorem dX3_init_41 : decode cX3_init 41 = .ok (.dup, 1) := by decide +kernel
theorem dX3_init_42 : decode cX3_init 42 = .ok (.invokespecial 29, 3) := by decide +kernel
theorem dX3_init_45 : decode cX3_init 45 = .ok (.putfield 30, 3) := by decide +kernel
theorem dX3_init_48 : decode cX3_init 48 = .ok (.iconst 0, 1) := by decide +kernel
theorem dX3_init_49 : decode cX3_init 49 = .ok (.istore_n 1, 1) := by decide +kernel
theorem dX3_init_50 : decode cX3_init 50 = .ok (.iload_n 1, 1) := by decide +kernel
theorem dX3_init_51 : decode cX3_init 51 = .ok (.aload_n 0, 1) := by decide +kernel
theorem dX3_init_52 : decode cX3_init 52 = .ok (.getfield 23, 3) := by decide +kernel
theorem dX3_init_55 : decode cX3_init 55 = .ok (.arraylength, 1) := by decide +kernel
theorem dX3_init_56 : decode cX3_init 56 = .ok (.if_icmp .ge 22, 3) := by decide +kernel
theorem dX3_init_59 : decode cX3_init 59 = .ok (.aload_n 0, 1) := by decide +kernel
theorem dX3_init_60 : decode cX3_init 60 = .ok (.getfield 23, 3) := by decide +kernel
theorem dX3_init_63 : decode cX3_init 63 = .ok (.iload_n 1, 1) := by decide +kernel
theorem dX3_init_64 : decode cX3_init 64 = .ok (.new 21, 3) := by decide +kernel
theorem dX3_init_67 : decode cX3_init 67 = .ok (.dup, 1) := by decide +kernel
theorem dX3_init_68 : decode cX3_init 68 = .ok (.invokespecial 34, 3) := by decide +kernel
theorem dX3_init_71 : decode cX3_init 71 = .ok (.aastore, 1) := by decide +kernel
theorem dX3_init_72 : decode cX3_init 72 = .ok (.iinc 1 1, 3) := by decide +kernel
theorem dX3_init_75 : decode cX3_init 75 = .ok (.goto (-25), 3) := by decide +kernel
theorem dX3_init_78 : decode cX3_init 78 = .ok (.aload_n 0, 1) := by decide +kernel
theorem dX3_init_79 : decode cX3_init 79 = .ok (.invokevirtual 35, 3) := by decide +kernel
theorem dX3_init_82 : decode cX3_init 82 = .ok (.return_, 1) := by decide +kernel
theorem dX3_beginAnew_0 : decode cX3_beginAnew 0 = .ok (.aload_n 0, 1) := by decide +kernel
theorem dX3_beginAnew_1 : decode cX3_beginAnew 1 = .ok (.iconst 0, 1) := by decide +kernel
theorem dX3_beginAnew_2 : decode cX3_beginAnew 2 = .ok (.putfield 38, 3) := by decide +kernel
theorem dX3_beginAnew_5 : decode cX3_beginAnew 5 = .ok (.aload_n 0, 1) := by decide +kernel
theorem dX3_beginAnew_6 : decode cX3_beginAnew 6 = .ok (.iconst 5, 1) := by decide +kernel
theorem dX3_beginAnew_7 : decode cX3_beginAnew 7 = .ok (.putfield 42, 3) := by decide +kernel
theorem dX3_beginAnew_10 : decode cX3_beginAnew 10 = .ok (.aload_n 0, 1) := by decide +kernel
theorem dX3_beginAnew_11 : decode cX3_beginAnew 11 = .ok (.iconst 0, 1) := by decide +kernel
theorem dX3_beginAnew_12 : decode cX3_beginAnew 12 = .ok (.putfield 45, 3) := by decide +kernel
theorem dX3_beginAnew_15 : decode cX3_beginAnew 15 = .ok (.aload_n 0, 1) := by decide +kernel
theorem dX3_beginAnew_16 : decode cX3_beginAnew 16 = .ok (.iconst 0, 1) := by decide +kernel
theorem dX3_beginAnew_17 : decode cX3_beginAnew 17 = .ok (.putfield 49, 3) := by decide +kernel
theorem dX3_beginAnew_20 : decode cX3_beginAnew 20 = .ok (.aload_n 0, 1) := by decide +kernel
theorem dX3_beginAnew_21 : decode cX3_beginAnew 21 = .ok (.iconst 0, 1) := by decide +kernel
theorem dX3_beginAnew_22 : decode cX3_beginAnew 22 = .ok (.putfield 52, 3) := by decide +kernel
theorem dX3_beginAnew_25 : decode cX3_beginAnew 25 = .ok (.aload_n 0, 1) := by decide +kernel
theorem dX3_beginAnew_26 : decode cX3_beginAnew 26 = .ok (.iconst 0, 1) := by decide +kernel
theorem dX3_beginAnew_27 : decode cX3_beginAnew 27 = .ok (.putfield 55, 3) := by decide +kernel
theorem dX3_beginAnew_30 : decode cX3_beginAnew 30 = .ok (.aload_n 0, 1) := by decide +kernel
theorem dX3_beginAnew_31 : decode cX3_beginAnew 31 = .ok (.iconst 0, 1) := by decide +kernel
theorem dX3_beginAnew_32 : decode cX3_beginAnew 32 = .ok (.putfield 58, 3) := by decide +kernel
theorem dX3_beginAnew_35 : decode cX3_beginAnew 35 = .ok (.aload_n 0, 1) := by decide +kernel
theorem dX3_beginAnew_36 : decode cX3_beginAnew 36 = .ok (.iconst 0, 1) := by decide +kernel
theorem dX3_beginAnew_37 : decode cX3_beginAnew 37 = .ok (.putfield 61, 3) := by decide +kernel
theorem dX3_beginAnew_40 : decode cX3_beginAnew 40 = .ok (.aload_n 0, 1) := by decide +kernel
theorem dX3_beginAnew_41 : decode cX3_beginAnew 41 = .ok (.iconst 0, 1) := by decide +kernel
theorem dX3_beginAnew_42 : decode cX3_beginAnew 42 = .ok (.putfield 64, 3) := by decide +kernel
theorem dX3_beginAnew_45 : decode cX3_beginAnew 45 = .ok (.aload_n 0, 1) := by decide +kernel
theorem dX3_beginAnew_46 : decode cX3_beginAnew 46 = .ok (.getfield 30, 3) := by decide +kernel
theorem dX3_beginAnew_49 : decode cX3_beginAnew 49 = .ok (.iconst 0, 1) := by decide +kernel
theorem dX3_beginAnew_50 : decode cX3_beginAnew 50 = .ok (.putfield 67, 3) := by decide +kernel
theorem dX3_beginAnew_53 : decode cX3_beginAnew 53 = .ok (.getstatic 70, 3) := by decide +kernel
theorem dX3_beginAnew_56 : decode cX3_beginAnew 56 = .ok (.iconst 0, 1) := by decide +kernel
theorem dX3_beginAnew_57 : decode cX3_beginAnew 57 = .ok (.aload_n 0, 1) := by decide +kernel
theorem dX3_beginAnew_58 : decode cX3_beginAnew 58 = .ok (.getfield 9, 3) := by decide +kernel
theorem dX3_beginAnew_61 : decode cX3_beginAnew 61 = .ok (.iconst 0, 1) := by decide +kernel
theorem dX3_beginAnew_62 : decode cX3_beginAnew 62 = .ok (.bipush 9, 2) := by decide +kernel
theorem dX3_beginAnew_64 : decode cX3_beginAnew 64 = .ok (.invokestatic 73, 3) := by decide +kernel
theorem dX3_beginAnew_67 : decode cX3_beginAnew 67 = .ok (.aload_n 0, 1) := by decide +kernel
theorem dX3_beginAnew_68 : decode cX3_beginAnew 68 = .ok (.getfield 18, 3) := by decide +kernel
theorem dX3_beginAnew_71 : decode cX3_beginAnew 71 = .ok (.iconst 0, 1) := by decide +kernel
theorem dX3_beginAnew_72 : decode cX3_beginAnew 72 = .ok (.bipush 40, 2) := by decide +kernel
theorem dX3_beginAnew_74 : decode cX3_beginAnew 74 = .ok (.iastore, 1) := by decide +kernel
theorem dX3_beginAnew_75 : decode cX3_beginAnew 75 = .ok (.aload_n 0, 1) := by decide +kernel
theorem dX3_beginAnew_76 : decode cX3_beginAnew 76 = .ok (.getfield 15, 3) := by decide +kernel
theorem dX3_beginAnew_79 : decode cX3_beginAnew 79 = .ok (.iconst 0, 1) := by decide +kernel
theorem dX3_beginAnew_80 : decode cX3_beginAnew 80 = .ok (.sipush 800, 3) := by decide +kernel
theorem dX3_beginAnew_83 : decode cX3_beginAnew 83 = .ok (.iastore, 1) := by decide +kernel
theorem dX3_beginAnew_84 : decode cX3_beginAnew 84 = .ok (.aload_n 0, 1) := by decide +kernel
theorem dX3_beginAnew_85 : decode cX3_beginAnew 85 = .ok (.getfield 18, 3) := by decide +kernel
theorem dX3_beginAnew_88 : decode cX3_beginAnew 88 = .ok (.iconst 1, 1) := by decide +kernel
theorem dX3_beginAnew_89 : decode cX3_beginAnew 89 = .ok (.bipush 60, 2) := by decide +kernel
theorem dX3_beginAnew_91 : decode cX3_beginAnew 91 = .ok (.iastore, 1) := by decide +kernel
theorem dX3_beginAnew_92 : decode cX3_beginAnew 92 = .ok (.aload_n 0, 1) := by decide +kernel
theorem dX3_beginAnew_93 : decode cX3_beginAnew 93 = .ok (.getfield 15, 3) := by decide +kernel
theorem dX3_beginAnew_96 : decode cX3_beginAnew 96 = .ok (.iconst 1, 1) := by decide +kernel
theorem dX3_beginAnew_97 : decode cX3_beginAnew 97 = .ok (.sipush 1200, 3) := by decide +kernel
theorem dX3_beginAnew_100 : decode cX3_beginAnew 100 = .ok (.iastore, 1) := by decide +kernel
theorem dX3_beginAnew_101 : decode cX3_beginAnew 101 = .ok (.return_, 1) := by decide +kernel
theorem dX3_copyFrom_0 : decode cX3_copyFrom 0 = .ok (.aload_n 0, 1) := by decide +kernel
theorem dX3_copyFrom_1 : decode cX3_copyFrom 1 = .ok (.aload_n 1, 1) := by decide +kernel
theorem dX3_copyFrom_2 : decode cX3_copyFrom 2 = .ok (.getfield 38, 3) := by decide +kernel
theorem dX3_copyFrom_5 : decode cX3_copyFrom 5 = .ok (.putfield 38, 3) := by decide +kernel
theorem dX3_copyFrom_8 : decode cX3_copyFrom 8 = .ok (.aload_n 0, 1) := by decide +kernel
theorem dX3_copyFrom_9 : decode cX3_copyFrom 9 = .ok (.aload_n 1, 1) := by decide +kernel
theorem dX3_copyFrom_10 : decode cX3_copyFrom 10 = .ok (.getfield 42, 3) := by decide +kernel
theorem dX3_copyFrom_13 : decode cX3_copyFrom 13 = .ok (.putfield 42, 3) := by decide +kernel
theorem dX3_copyFrom_16 : decode cX3_copyFrom 16 = .ok (.aload_n 0, 1) := by decide +kernel
theorem dX3_copyFrom_17 : decode cX3_copyFrom 17 = .ok (.aload_n 1, 1) := by decide +kernel
theorem dX3_copyFrom_18 : decode cX3_copyFrom 18 = .ok (.getfield 45, 3) := by decide +kernel
theorem dX3_copyFrom_21 : decode cX3_copyFrom 21 = .ok (.putfield 45, 3) := by decide +kernel
theorem dX3_copyFrom_24 : decode cX3_copyFrom 24 = .ok (.aload_n 0, 1) := by decide +kernel
theorem dX3_copyFrom_25 : decode cX3_copyFrom 25 = .ok (.aload_n 1, 1) := by decide +kernel
theorem dX3_copyFrom_26 : decode cX3_copyFrom 26 = .ok (.getfield 49, 3) := by decide +kernel
theorem dX3_copyFrom_29 : decode cX3_copyFrom 29 = .ok (.putfield 49, 3) := by decide +kernel
theorem dX3_copyFrom_32 : decode cX3_copyFrom 32 = .ok (.aload_n 0, 1) := by decide +kernel
theorem dX3_copyFrom_33 : decode cX3_copyFrom 33 = .ok (.aload_n 1, 1) := by decide +kernel
theorem dX3_copyFrom_34 : decode cX3_copyFrom 34 = .ok (.getfield 52, 3) := by decide +kernel
theorem dX3_copyFrom_37 : decode cX3_copyFrom 37 = .ok (.putfield 52, 3) := by decide +kernel
theorem dX3_copyFrom_40 : decode cX3_copyFrom 40 = .ok (.aload_n 0, 1) := by decide +kernel
theorem dX3_copyFrom_41 : decode cX3_copyFrom 41 = .ok (.aload_n 1, 1) := by decide +kernel
theorem dX3_copyFrom_42 : decode cX3_copyFrom 42 = .ok (.getfield 55, 3) := by decide +kernel
theorem dX3_copyFrom_45 : decode cX3_copyFrom 45 = .ok (.putfield 55, 3) := by decide +kernel
theorem dX3_copyFrom_48 : decode cX3_copyFrom 48 = .ok (.aload_n 0, 1) := by decide +kernel
theorem dX3_copyFrom_49 : decode cX3_copyFrom 49 = .ok (.aload_n 1, 1) := by decide +kernel
theorem dX3_copyFrom_50 : decode cX3_copyFrom 50 = .ok (.getfield 58, 3) := by decide +kernel
theorem dX3_copyFrom_53 : decode cX3_copyFrom 53 = .ok (.putfield 58, 3) := by decide +kernel
theorem dX3_copyFrom_56 : decode cX3_copyFrom 56 = .ok (.aload_n 0, 1) := by decide +kernel
theorem dX3_copyFrom_57 : decode cX3_copyFrom 57 = .ok (.aload_n 1, 1) := by decide +kernel
theorem dX3_copyFrom_58 : decode cX3_copyFrom 58 = .ok (.getfield 61, 3) := by decide +kernel
theorem dX3_copyFrom_61 : decode cX3_copyFrom 61 = .ok (.putfield 61, 3) := by decide +kernel
theorem dX3_copyFrom_64 : decode cX3_copyFrom 64 = .ok (.aload_n 0, 1) := by decide +kernel
theorem dX3_copyFrom_65 : decode cX3_copyFrom 65 = .ok (.aload_n 1, 1) := by decide +kernel
theorem dX3_copyFrom_66 : decode cX3_copyFrom 66 = .ok (.getfield 64, 3) := by decide +kernel
theorem dX3_copyFrom_69 : decode cX3_copyFrom 69 = .ok (.putfield 64, 3) := by decide +kernel
theorem dX3_copyFrom_72 : decode cX3_copyFrom 72 = .ok (.aload_n 0, 1) := by decide +kernel
theorem dX3_copyFrom_73 : decode cX3_copyFrom 73 = .ok (.getfield 30, 3) := by decide +kernel
theorem dX3_copyFrom_76 : decode cX3_copyFrom 76 = .ok (.aload_n 1, 1) := by decide +kernel
theorem dX3_copyFrom_77 : decode cX3_copyFrom 77 = .ok (.getfield 30, 3) := by decide +kernel
theorem dX3_copyFrom_80 : decode cX3_copyFrom 80 = .ok (.invokevirtual 79, 3) := by decide +kernel
theorem dX3_copyFrom_83 : decode cX3_copyFrom 83 = .ok (.aload_n 1, 1) := by decide +kernel
theorem dX3_copyFrom_84 : decode cX3_copyFrom 84 = .ok (.getfield 9, 3) := by decide +kernel
theorem dX3_copyFrom_87 : decode cX3_copyFrom 87 = .ok (.iconst 0, 1) := by decide +kernel
theorem dX3_copyFrom_88 : decode cX3_copyFrom 88 = .ok (.aload_n 0, 1) := by decide +kernel
theorem dX3_copyFrom_89 : decode cX3_copyFrom 89 = .ok (.getfield 9, 3) := by decide +kernel
theorem dX3_copyFrom_92 : decode cX3_copyFrom 92 = .ok (.iconst 0, 1) := by decide +kernel
theorem dX3_copyFrom_93 : decode cX3_copyFrom 93 = .ok (.bipush 9, 2) := by decide +kernel
theorem dX3_copyFrom_95 : decode cX3_copyFrom 95 = .ok (.invokestatic 73, 3) := by decide +kernel
theorem dX3_copyFrom_98 : decode cX3_copyFrom 98 = .ok (.aload_n 1, 1) := by decide +kernel
theorem dX3_copyFrom_99 : decode cX3_copyFrom 99 = .ok (.getfield 15, 3) := by decide +kernel
theorem dX3_copyFrom_102 : decode cX3_copyFrom 102 = .ok (.iconst 0, 1) := by decide +kernel
theorem dX3_copyFrom_103 : decode cX3_copyFrom 103 = .ok (.aload_n 0, 1) := by decide +kernel
theorem dX3_copyFrom_104 : decode cX3_copyFrom 104 = .ok (.getfield 15, 3) := by decide +kernel
theorem dX3_copyFrom_107 : decode cX3_copyFrom 107 = .ok (.iconst 0, 1) := by decide +kernel
theorem dX3_copyFrom_108 : decode cX3_copyFrom 108 = .ok (.bipush 8, 2) := by decide +kernel
theorem dX3_copyFrom_110 : decode cX3_copyFrom 110 = .ok (.invokestatic 73, 3) := by decide +kernel
theorem dX3_copyFrom_113 : decode cX3_copyFrom 113 = .ok (.aload_n 1, 1) := by decide +kernel
theorem dX3_copyFrom_114 : decode cX3_copyFrom 114 = .ok (.getfield 18, 3) := by decide +kernel
theorem dX3_copyFrom_117 : decode cX3_copyFrom 117 = .ok (.iconst 0, 1) := by decide +kernel
theorem dX3_copyFrom_118 : decode cX3_copyFrom 118 = .ok (.aload_n 0, 1) := by decide +kernel
theorem dX3_copyFrom_119 : decode cX3_copyFrom 119 = .ok (.getfield 18, 3) := by decide +kernel
theorem dX3_copyFrom_122 : decode cX3_copyFrom 122 = .ok (.iconst 0, 1) := by decide +kernel
theorem dX3_copyFrom_123 : decode cX3_copyFrom 123 = .ok (.bipush 8, 2) := by decide +kernel
theorem dX3_copyFrom_125 : decode cX3_copyFrom 125 = .ok (.invokestatic 73, 3) := by decide +kernel
theorem dX3_copyFrom_128 : decode cX3_copyFrom 128 = .ok (.iconst 0, 1) := by decide +kernel
theorem dX3_copyFrom_129 : decode cX3_copyFrom 129 = .ok (.istore_n 2, 1) := by decide +kernel
theorem dX3_copyFrom_130 : decode cX3_copyFrom 130 = .ok (.iload_n 2, 1) := by decide +kernel
theorem dX3_copyFrom_131 : decode cX3_copyFrom 131 = .ok (.aload_n 0, 1) := by decide +kernel
theorem dX3_copyFrom_132 : decode cX3_copyFrom 132 = .ok (.getfield 64, 3) := by decide +kernel
theorem dX3_copyFrom_135 : decode cX3_copyFrom 135 = .ok (.if_icmp .ge 30, 3) := by decide +kernel
theorem dX3_copyFrom_138 : decode cX3_copyFrom 138 = .ok (.iload_n 2, 1) := by decide +kernel
theorem dX3_copyFrom_139 : decode cX3_copyFrom 139 = .ok (.bipush 6, 2) := by decide +kernel
theorem dX3_copyFrom_141 : decode cX3_copyFrom 141 = .ok (.if_icmp .ge 24, 3) := by decide +kernel
theorem dX3_copyFrom_144 : decode cX3_copyFrom 144 = .ok (.aload_n 0, 1) := by decide +kernel
theorem dX3_copyFrom_145 : decode cX3_copyFrom 145 = .ok (.getfield 23, 3) := by decide +kernel
theorem dX3_copyFrom_148 : decode cX3_copyFrom 148 = .ok (.iload_n 2, 1) := by decide +kernel
theorem dX3_copyFrom_149 : decode cX3_copyFrom 149 = .ok (.aaload, 1) := by decide +kernel
theorem dX3_copyFrom_150 : decode cX3_copyFrom 150 = .ok (.aload_n 1, 1) := by decide +kernel
theorem dX3_copyFrom_151 : decode cX3_copyFrom 151 = .ok (.getfield 23, 3) := by decide +kernel
theorem dX3_copyFrom_154 : decode cX3_copyFrom 154 = .ok (.iload_n 2, 1) := by decide +kernel
theorem dX3_copyFrom_155 : decode cX3_copyFrom 155 = .ok (.aaload, 1) := by decide +kernel
theorem dX3_copyFrom_156 : decode cX3_copyFrom 156 = .ok (.invokevirtual 83, 3) := by decide +kernel
theorem dX3_copyFrom_159 : decode cX3_copyFrom 159 = .ok (.iinc 2 1, 3) := by decide +kernel
theorem dX3_copyFrom_162 : decode cX3_copyFrom 162 = .ok (.goto (-32), 3) := by decide +kernel
theorem dX3_copyFrom_165 : decode cX3_copyFrom 165 = .ok (.return_, 1) := by decide +kernel
theorem dX3_hasRoom_0 : decode cX3_hasRoom 0 = .ok (.iload_n 1, 1) := by decide +kernel
theorem dX3_hasRoom_1 : decode cX3_hasRoom 1 = .ok (.ifCond .lt 21, 3) := by decide +kernel
theorem dX3_hasRoom_4 : decode cX3_hasRoom 4 = .ok (.iload_n 1, 1) := by decide +kernel
theorem dX3_hasRoom_5 : decode cX3_hasRoom 5 = .ok (.aload_n 0, 1) := by decide +kernel
theorem dX3_hasRoom_6 : decode cX3_hasRoom 6 = .ok (.getfield 64, 3) := by decide +kernel
theorem dX3_hasRoom_9 : decode cX3_hasRoom 9 = .ok (.if_icmp .ge 13, 3) := by decide +kernel
theorem dX3_hasRoom_12 : decode cX3_hasRoom 12 = .ok (.iload_n 1, 1) := by decide +kernel
theorem dX3_hasRoom_13 : decode cX3_hasRoom 13 = .ok (.bipush 6, 2) := by decide +kernel
theorem dX3_hasRoom_15 : decode cX3_hasRoom 15 = .ok (.if_icmp .ge 7, 3) := by decide +kernel
theorem dX3_hasRoom_18 : decode cX3_hasRoom 18 = .ok (.iconst 1, 1) := by decide +kernel
theorem dX3_hasRoom_19 : decode cX3_hasRoom 19 = .ok (.goto 4, 3) := by decide +kernel
theorem dX3_hasRoom_22 : decode cX3_hasRoom 22 = .ok (.iconst 0, 1) := by decide +kernel
theorem dX3_hasRoom_23 : decode cX3_hasRoom 23 = .ok (.ireturn, 1) := by decide +kernel
theorem dX3_hasPlace_0 : decode cX3_hasPlace 0 = .ok (.iload_n 1, 1) := by decide +kernel
theorem dX3_hasPlace_1 : decode cX3_hasPlace 1 = .ok (.ifCond .eq 18, 3) := by decide +kernel
theorem dX3_hasPlace_4 : decode cX3_hasPlace 4 = .ok (.iload_n 1, 1) := by decide +kernel
theorem dX3_hasPlace_5 : decode cX3_hasPlace 5 = .ok (.iconst 1, 1) := by decide +kernel
theorem dX3_hasPlace_6 : decode cX3_hasPlace 6 = .ok (.if_icmp .eq 13, 3) := by decide +kernel
theorem dX3_hasPlace_9 : decode cX3_hasPlace 9 = .ok (.aload_n 0, 1) := by decide +kernel
theorem dX3_hasPlace_10 : decode cX3_hasPlace 10 = .ok (.iload_n 1, 1) := by decide +kernel
theorem dX3_hasPlace_11 : decode cX3_hasPlace 11 = .ok (.iconst 2, 1) := by decide +kernel
theorem dX3_hasPlace_12 : decode cX3_hasPlace 12 = .ok (.isub, 1) := by decide +kernel
theorem dX3_hasPlace_13 : decode cX3_hasPlace 13 = .ok (.invokevirtual 86, 3) := by decide +kernel
theorem dX3_hasPlace_16 : decode cX3_hasPlace 16 = .ok (.ifCond .eq 7, 3) := by decide +kernel
theorem dX3_hasPlace_19 : decode cX3_hasPlace 19 = .ok (.iconst 1, 1) := by decide +kernel
theorem dX3_hasPlace_20 : decode cX3_hasPlace 20 = .ok (.goto 4, 3) := by decide +kernel
theorem dX3_hasPlace_23 : decode cX3_hasPlace 23 = .ok (.iconst 0, 1) := by decide +kernel
theorem dX3_hasPlace_24 : decode cX3_hasPlace 24 = .ok (.ireturn, 1) := by decide +kernel
theorem dX3_isFull_0 : decode cX3_isFull 0 = .ok (.aload_n 0, 1) := by decide +kernel
theorem dX3_isFull_1 : decode cX3_isFull 1 = .ok (.getfield 64, 3) := by decide +kernel
theorem dX3_isFull_4 : decode cX3_isFull 4 = .ok (.bipush 6, 2) := by decide +kernel
theorem dX3_isFull_6 : decode cX3_isFull 6 = .ok (.if_icmp .lt 7, 3) := by decide +kernel
theorem dX3_isFull_9 : decode cX3_isFull 9 = .ok (.iconst 1, 1) := by decide +kernel
theorem dX3_isFull_10 : decode cX3_isFull 10 = .ok (.goto 4, 3) := by decide +kernel
theorem dX3_isFull_13 : decode cX3_isFull 13 = .ok (.iconst 0, 1) := by decide +kernel
theorem dX3_isFull_14 : decode cX3_isFull 14 = .ok (.ireturn, 1) := by decide +kernel
theorem dX3_settingOf_0 : decode cX3_settingOf 0 = .ok (.iload_n 1, 1) := by decide +kernel
theorem dX3_settingOf_1 : decode cX3_settingOf 1 = .ok (.ifCond .lt 18, 3) := by decide +kernel
theorem dX3_settingOf_4 : decode cX3_settingOf 4 = .ok (.iload_n 1, 1) := by decide +kernel
theorem dX3_settingOf_5 : decode cX3_settingOf 5 = .ok (.bipush 9, 2) := by decide +kernel
theorem dX3_settingOf_7 : decode cX3_settingOf 7 = .ok (.if_icmp .ge 12, 3) := by decide +kernel
theorem dX3_settingOf_10 : decode cX3_settingOf 10 = .ok (.aload_n 0, 1) := by decide +kernel
theorem dX3_settingOf_11 : decode cX3_settingOf 11 = .ok (.getfield 9, 3) := by decide +kernel
theorem dX3_settingOf_14 : decode cX3_settingOf 14 = .ok (.iload_n 1, 1) := by decide +kernel
theorem dX3_settingOf_15 : decode cX3_settingOf 15 = .ok (.iaload, 1) := by decide +kernel
theorem dX3_settingOf_16 : decode cX3_settingOf 16 = .ok (.goto 4, 3) := by decide +kernel
theorem dX3_settingOf_19 : decode cX3_settingOf 19 = .ok (.iconst 0, 1) := by decide +kernel
theorem dX3_settingOf_20 : decode cX3_settingOf 20 = .ok (.ireturn, 1) := by decide +kernel
theorem dX3_changeSetting_0 : decode cX3_changeSetting 0 = .ok (.iload_n 1, 1) := by decide +kernel
theorem dX3_changeSetting_1 : decode cX3_changeSetting 1 = .ok (.ifCond .lt 16, 3) := by decide +kernel
theorem dX3_changeSetting_4 : decode cX3_changeSetting 4 = .ok (.iload_n 1, 1) := by decide +kernel
theorem dX3_changeSetting_5 : decode cX3_changeSetting 5 = .ok (.bipush 9, 2) := by decide +kernel
theorem dX3_changeSetting_7 : decode cX3_changeSetting 7 = .ok (.if_icmp .ge 10, 3) := by decide +kernel
theorem dX3_changeSetting_10 : decode cX3_changeSetting 10 = .ok (.aload_n 0, 1) := by decide +kernel
theorem dX3_changeSetting_11 : decode cX3_changeSetting 11 = .ok (.getfield 9, 3) := by decide +kernel
theorem dX3_changeSetting_14 : decode cX3_changeSetting 14 = .ok (.iload_n 1, 1) := by decide +kernel
theorem dX3_changeSetting_15 : decode cX3_changeSetting 15 = .ok (.iload_n 2, 1) := by decide +kernel
theorem dX3_changeSetting_16 : decode cX3_changeSetting 16 = .ok (.iastore, 1) := by decide +kernel
theorem dX3_changeSetting_17 : decode cX3_changeSetting 17 = .ok (.return_, 1) := by decide +kernel
theorem dX3_turnWindow_0 : decode cX3_turnWindow 0 = .ok (.aload_n 0, 1) := by decide +kernel
theorem dX3_turnWindow_1 : decode cX3_turnWindow 1 = .ok (.iload_n 1, 1) := by decide +kernel
theorem dX3_turnWindow_2 : decode cX3_turnWindow 2 = .ok (.invokevirtual 86, 3) := by decide +kernel
theorem dX3_turnWindow_5 : decode cX3_turnWindow 5 = .ok (.ifCond .eq 13, 3) := by decide +kernel
theorem dX3_turnWindow_8 : decode cX3_turnWindow 8 = .ok (.aload_n 0, 1) := by decide +kernel
theorem dX3_turnWindow_9 : decode cX3_turnWindow 9 = .ok (.getfield 23, 3) := by decide +kernel
theorem dX3_turnWindow_12 : decode cX3_turnWindow 12 = .ok (.iload_n 1, 1) := by decide +kernel
theorem dX3_turnWindow_13 : decode cX3_turnWindow 13 = .ok (.aaload, 1) := by decide +kernel
theorem dX3_turnWindow_14 : decode cX3_turnWindow 14 = .ok (.iload_n 2, 1) := by decide +kernel
theorem dX3_turnWindow_15 : decode cX3_turnWindow 15 = .ok (.putfield 90, 3) := by decide +kernel
theorem dX3_turnWindow_18 : decode cX3_turnWindow 18 = .ok (.return_, 1) := by decide +kernel
theorem dX3_buildRoom_0 : decode cX3_buildRoom 0 = .ok (.aload_n 0, 1) := by decide +kernel
theorem dX3_buildRoom_1 : decode cX3_buildRoom 1 = .ok (.getfield 64, 3) := by decide +kernel
theorem dX3_buildRoom_4 : decode cX3_buildRoom 4 = .ok (.istore 5, 2) := by decide +kernel
theorem dX3_buildRoom_6 : decode cX3_buildRoom 6 = .ok (.iconst 2, 1) := by decide +kernel
theorem dX3_buildRoom_7 : decode cX3_buildRoom 7 = .ok (.iload 5, 2) := by decide +kernel
theorem dX3_buildRoom_9 : decode cX3_buildRoom 9 = .ok (.iadd, 1) := by decide +kernel
theorem dX3_buildRoom_10 : decode cX3_buildRoom 10 = .ok (.istore 6, 2) := by decide +kernel
theorem dX3_buildRoom_12 : decode cX3_buildRoom 12 = .ok (.iload 5, 2) := by decide +kernel
theorem dX3_buildRoom_14 : decode cX3_buildRoom 14 = .ok (.ifCond .lt 10, 3) := by decide +kernel
theorem dX3_buildRoom_17 : decode cX3_buildRoom 17 = .ok (.iload 5, 2) := by decide +kernel
theorem dX3_buildRoom_19 : decode cX3_buildRoom 19 = .ok (.bipush 6, 2) := by decide +kernel
theorem dX3_buildRoom_21 : decode cX3_buildRoom 21 = .ok (.if_icmp .lt 4, 3) := by decide +kernel
theorem dX3_buildRoom_24 : decode cX3_buildRoom 24 = .ok (.return_, 1) := by decide +kernel
theorem dX3_buildRoom_25 : decode cX3_buildRoom 25 = .ok (.aload_n 0, 1) := by decide +kernel
theorem dX3_buildRoom_26 : decode cX3_buildRoom 26 = .ok (.getfield 23, 3) := by decide +kernel
theorem dX3_buildRoom_29 : decode cX3_buildRoom 29 = .ok (.iload 5, 2) := by decide +kernel
theorem dX3_buildRoom_31 : decode cX3_buildRoom 31 = .ok (.aaload, 1) := by decide +kernel
theorem dX3_buildRoom_32 : decode cX3_buildRoom 32 = .ok (.iload_n 2, 1) := by decide +kernel
theorem dX3_buildRoom_33 : decode cX3_buildRoom 33 = .ok (.iload_n 3, 1) := by decide +kernel
theorem dX3_buildRoom_34 : decode cX3_buildRoom 34 = .ok (.iload 4, 2) := by decide +kernel
theorem dX3_buildRoom_36 : decode cX3_buildRoom 36 = .ok (.invokevirtual 93, 3) := by decide +kernel
theorem dX3_buildRoom_39 : decode cX3_buildRoom 39 = .ok (.aload_n 0, 1) := by decide +kernel
theorem dX3_buildRoom_40 : decode cX3_buildRoom 40 = .ok (.getfield 18, 3) := by decide +kernel
theorem dX3_buildRoom_43 : decode cX3_buildRoom 43 = .ok (.iload 6, 2) := by decide +kernel
theorem dX3_buildRoom_45 : decode cX3_buildRoom 45 = .ok (.bipush 10, 2) := by decide +kernel
theorem dX3_buildRoom_47 : decode cX3_buildRoom 47 = .ok (.iload_n 1, 1) := by decide +kernel
theorem dX3_buildRoom_48 : decode cX3_buildRoom 48 = .ok (.imul, 1) := by decide +kernel
theorem dX3_buildRoom_49 : decode cX3_buildRoom 49 = .ok (.iastore, 1) := by decide +kernel
theorem dX3_buildRoom_50 : decode cX3_buildRoom 50 = .ok (.aload_n 0, 1) := by decide +kernel
theorem dX3_buildRoom_51 : decode cX3_buildRoom 51 = .ok (.getfield 15, 3) := by decide +kernel
theorem dX3_buildRoom_54 : decode cX3_buildRoom 54 = .ok (.iload 6, 2) := by decide +kernel
theorem dX3_buildRoom_56 : decode cX3_buildRoom 56 = .ok (.iconst 0, 1) := by decide +kernel
theorem dX3_buildRoom_57 : decode cX3_buildRoom 57 = .ok (.iastore, 1) := by decide +kernel
theorem dX3_buildRoom_58 : decode cX3_buildRoom 58 = .ok (.aload_n 0, 1) := by decide +kernel
theorem dX3_buildRoom_59 : decode cX3_buildRoom 59 = .ok (.dup, 1) := by decide +kernel
theorem dX3_buildRoom_60 : decode cX3_buildRoom 60 = .ok (.getfield 64, 3) := by decide +kernel
theorem dX3_buildRoom_63 : decode cX3_buildRoom 63 = .ok (.iconst 1, 1) := by decide +kernel
theorem dX3_buildRoom_64 : decode cX3_buildRoom 64 = .ok (.iadd, 1) := by decide +kernel
theorem dX3_buildRoom_65 : decode cX3_buildRoom 65 = .ok (.putfield 64, 3) := by decide +kernel
theorem dX3_buildRoom_68 : decode cX3_buildRoom 68 = .ok (.aload_n 0, 1) := by decide +kernel
theorem dX3_buildRoom_69 : decode cX3_buildRoom 69 = .ok (.bipush 9, 2) := by decide +kernel
theorem dX3_buildRoom_71 : decode cX3_buildRoom 71 = .ok (.iload 6, 2) := by decide +kernel
theorem dX3_buildRoom_73 : decode cX3_buildRoom 73 = .ok (.bipush 15, 2) := by decide +kernel
theorem dX3_buildRoom_75 : decode cX3_buildRoom 75 = .ok (.aload_n 0, 1) := by decide +kernel
theorem dX3_buildRoom_76 : decode cX3_buildRoom 76 = .ok (.getfield 18, 3) := by decide +kernel
theorem dX3_buildRoom_79 : decode cX3_buildRoom 79 = .ok (.iload 6, 2) := by decide +kernel
theorem dX3_buildRoom_81 : decode cX3_buildRoom 81 = .ok (.iaload, 1) := by decide +kernel
theorem dX3_buildRoom_82 : decode cX3_buildRoom 82 = .ok (.imul, 1) := by decide +kernel
theorem dX3_buildRoom_83 : decode cX3_buildRoom 83 = .ok (.invokevirtual 97, 3) := by decide +kernel
theorem dX3_buildRoom_86 : decode cX3_buildRoom 86 = .ok (.return_, 1) := by decide +kernel
theorem dX3_heatOf_0 : decode cX3_heatOf 0 = .ok (.iload_n 1, 1) := by decide +kernel
theorem dX3_heatOf_1 : decode cX3_heatOf 1 = .ok (.ifCond .lt 18, 3) := by decide +kernel
theorem dX3_heatOf_4 : decode cX3_heatOf 4 = .ok (.iload_n 1, 1) := by decide +kernel
theorem dX3_heatOf_5 : decode cX3_heatOf 5 = .ok (.bipush 8, 2) := by decide +kernel
theorem dX3_heatOf_7 : decode cX3_heatOf 7 = .ok (.if_icmp .ge 12, 3) := by decide +kernel
theorem dX3_heatOf_10 : decode cX3_heatOf 10 = .ok (.aload_n 0, 1) := by decide +kernel
theorem dX3_heatOf_11 : decode cX3_heatOf 11 = .ok (.getfield 15, 3) := by decide +kernel
theorem dX3_heatOf_14 : decode cX3_heatOf 14 = .ok (.iload_n 1, 1) := by decide +kernel
theorem dX3_heatOf_15 : decode cX3_heatOf 15 = .ok (.iaload, 1) := by decide +kernel
theorem dX3_heatOf_16 : decode cX3_heatOf 16 = .ok (.goto 4, 3) := by decide +kernel
theorem dX3_heatOf_19 : decode cX3_heatOf 19 = .ok (.iconst 0, 1) := by decide +kernel
theorem dX3_heatOf_20 : decode cX3_heatOf 20 = .ok (.ireturn, 1) := by decide +kernel
theorem dX3_capacityOf_0 : decode cX3_capacityOf 0 = .ok (.iload_n 1, 1) := by decide +kernel
theorem dX3_capacityOf_1 : decode cX3_capacityOf 1 = .ok (.ifCond .lt 18, 3) := by decide +kernel
theorem dX3_capacityOf_4 : decode cX3_capacityOf 4 = .ok (.iload_n 1, 1) := by decide +kernel
theorem dX3_capacityOf_5 : decode cX3_capacityOf 5 = .ok (.bipush 8, 2) := by decide +kernel
theorem dX3_capacityOf_7 : decode cX3_capacityOf 7 = .ok (.if_icmp .ge 12, 3) := by decide +kernel
theorem dX3_capacityOf_10 : decode cX3_capacityOf 10 = .ok (.aload_n 0, 1) := by decide +kernel
theorem dX3_capacityOf_11 : decode cX3_capacityOf 11 = .ok (.getfield 18, 3) := by decide +kernel
theorem dX3_capacityOf_14 : decode cX3_capacityOf 14 = .ok (.iload_n 1, 1) := by decide +kernel
theorem dX3_capacityOf_15 : decode cX3_capacityOf 15 = .ok (.iaload, 1) := by decide +kernel
theorem dX3_capacityOf_16 : decode cX3_capacityOf 16 = .ok (.goto 4, 3) := by decide +kernel
theorem dX3_capacityOf_19 : decode cX3_capacityOf 19 = .ok (.iconst 0, 1) := by decide +kernel
theorem dX3_capacityOf_20 : decode cX3_capacityOf 20 = .ok (.ireturn, 1) := by decide +kernel
theorem dX3_degrees_0 : decode cX3_degrees 0 = .ok (.iload_n 1, 1) := by decide +kernel
theorem dX3_degrees_1 : decode cX3_degrees 1 = .ok (.ifCond .lt 18, 3) := by decide +kernel
theorem dX3_degrees_4 : decode cX3_degrees 4 = .ok (.iload_n 1, 1) := by decide +kernel
theorem dX3_degrees_5 : decode cX3_degrees 5 = .ok (.bipush 8, 2) := by decide +kernel
theorem dX3_degrees_7 : decode cX3_degrees 7 = .ok (.if_icmp .ge 12, 3) := by decide +kernel
theorem dX3_degrees_10 : decode cX3_degrees 10 = .ok (.aload_n 0, 1) := by decide +kernel
theorem dX3_degrees_11 : decode cX3_degrees 11 = .ok (.getfield 18, 3) := by decide +kernel
theorem dX3_degrees_14 : decode cX3_degrees 14 = .ok (.iload_n 1, 1) := by decide +kernel
theorem dX3_degrees_15 : decode cX3_degrees 15 = .ok (.iaload, 1) := by decide +kernel
theorem dX3_degrees_16 : decode cX3_degrees 16 = .ok (.ifCond .gt 5, 3) := by decide +kernel
theorem dX3_degrees_19 : decode cX3_degrees 19 = .ok (.iconst 0, 1) := by decide +kernel
theorem dX3_degrees_20 : decode cX3_degrees 20 = .ok (.ireturn, 1) := by decide +kernel
theorem dX3_degrees_21 : decode cX3_degrees 21 = .ok (.aload_n 0, 1) := by decide +kernel
theorem dX3_degrees_22 : decode cX3_degrees 22 = .ok (.getfield 15, 3) := by decide +kernel
theorem dX3_degrees_25 : decode cX3_degrees 25 = .ok (.iload_n 1, 1) := by decide +kernel
theorem dX3_degrees_26 : decode cX3_degrees 26 = .ok (.iaload, 1) := by decide +kernel
theorem dX3_degrees_27 : decode cX3_degrees 27 = .ok (.aload_n 0, 1) := by decide +kernel
theorem dX3_degrees_28 : decode cX3_degrees 28 = .ok (.getfield 18, 3) := by decide +kernel
theorem dX3_degrees_31 : decode cX3_degrees 31 = .ok (.iload_n 1, 1) := by decide +kernel
theorem dX3_degrees_32 : decode cX3_degrees 32 = .ok (.iaload, 1) := by decide +kernel
theorem dX3_degrees_33 : decode cX3_degrees 33 = .ok (.invokestatic 100, 3) := by decide +kernel
theorem dX3_degrees_36 : decode cX3_degrees 36 = .ok (.ireturn, 1) := by decide +kernel
theorem dX3_allHeat_0 : decode cX3_allHeat 0 = .ok (.iconst 0, 1) := by decide +kernel
theorem dX3_allHeat_1 : decode cX3_allHeat 1 = .ok (.istore_n 1, 1) := by decide +kernel
theorem dX3_allHeat_2 : decode cX3_allHeat 2 = .ok (.iconst 0, 1) := by decide +kernel
theorem dX3_allHeat_3 : decode cX3_allHeat 3 = .ok (.istore_n 2, 1) := by decide +kernel
theorem dX3_allHeat_4 : decode cX3_allHeat 4 = .ok (.iload_n 2, 1) := by decide +kernel
theorem dX3_allHeat_5 : decode cX3_allHeat 5 = .ok (.iconst 2, 1) := by decide +kernel
theorem dX3_allHeat_6 : decode cX3_allHeat 6 = .ok (.aload_n 0, 1) := by decide +kernel
theorem dX3_allHeat_7 : decode cX3_allHeat 7 = .ok (.getfield 64, 3) := by decide +kernel
theorem dX3_allHeat_10 : decode cX3_allHeat 10 = .ok (.iadd, 1) := by decide +kernel
theorem dX3_allHeat_11 : decode cX3_allHeat 11 = .ok (.if_icmp .ge 24, 3) := by decide +kernel
theorem dX3_allHeat_14 : decode cX3_allHeat 14 = .ok (.iload_n 2, 1) := by decide +kernel
theorem dX3_allHeat_15 : decode cX3_allHeat 15 = .ok (.bipush 8, 2) := by decide +kernel
theorem dX3_allHeat_17 : decode cX3_allHeat 17 = .ok (.if_icmp .ge 18, 3) := by decide +kernel
theorem dX3_allHeat_20 : decode cX3_allHeat 20 = .ok (.iload_n 1, 1) := by decide +kernel
theorem dX3_allHeat_21 : decode cX3_allHeat 21 = .ok (.aload_n 0, 1) := by decide +kernel
theorem dX3_allHeat_22 : decode cX3_allHeat 22 = .ok (.getfield 15, 3) := by decide +kernel
theorem dX3_allHeat_25 : decode cX3_allHeat 25 = .ok (.iload_n 2, 1) := by decide +kernel
theorem dX3_allHeat_26 : decode cX3_allHeat 26 = .ok (.iaload, 1) := by decide +kernel
theorem dX3_allHeat_27 : decode cX3_allHeat 27 = .ok (.iadd, 1) := by decide +kernel
theorem dX3_allHeat_28 : decode cX3_allHeat 28 = .ok (.istore_n 1, 1) := by decide +kernel
theorem dX3_allHeat_29 : decode cX3_allHeat 29 = .ok (.iinc 2 1, 3) := by decide +kernel
theorem dX3_allHeat_32 : decode cX3_allHeat 32 = .ok (.goto (-28), 3) := by decide +kernel
theorem dX3_allHeat_35 : decode cX3_allHeat 35 = .ok (.iload_n 1, 1) := by decide +kernel
theorem dX3_allHeat_36 : decode cX3_allHeat 36 = .ok (.ireturn, 1) := by decide +kernel
theorem dX3_allComfort_0 : decode cX3_allComfort 0 = .ok (.iconst 0, 1) := by decide +kernel
theorem dX3_allComfort_1 : decode cX3_allComfort 1 = .ok (.istore_n 1, 1) := by decide +kernel
theorem dX3_allComfort_2 : decode cX3_allComfort 2 = .ok (.iconst 0, 1) := by decide +kernel
theorem dX3_allComfort_3 : decode cX3_allComfort 3 = .ok (.istore_n 2, 1) := by decide +kernel
theorem dX3_allComfort_4 : decode cX3_allComfort 4 = .ok (.iload_n 2, 1) := by decide +kernel
theorem dX3_allComfort_5 : decode cX3_allComfort 5 = .ok (.aload_n 0, 1) := by decide +kernel
theorem dX3_allComfort_6 : decode cX3_allComfort 6 = .ok (.getfield 64, 3) := by decide +kernel
theorem dX3_allComfort_9 : decode cX3_allComfort 9 = .ok (.if_icmp .ge 27, 3) := by decide +kernel
theorem dX3_allComfort_12 : decode cX3_allComfort 12 = .ok (.iload_n 2, 1) := by decide +kernel
theorem dX3_allComfort_13 : decode cX3_allComfort 13 = .ok (.bipush 6, 2) := by decide +kernel
theorem dX3_allComfort_15 : decode cX3_allComfort 15 = .ok (.if_icmp .ge 21, 3) := by decide +kernel
theorem dX3_allComfort_18 : decode cX3_allComfort 18 = .ok (.iload_n 1, 1) := by decide +kernel
theorem dX3_allComfort_19 : decode cX3_allComfort 19 = .ok (.aload_n 0, 1) := by decide +kernel
theorem dX3_allComfort_20 : decode cX3_allComfort 20 = .ok (.getfield 23, 3) := by decide +kernel
theorem dX3_allComfort_23 : decode cX3_allComfort 23 = .ok (.iload_n 2, 1) := by decide +kernel
theorem dX3_allComfort_24 : decode cX3_allComfort 24 = .ok (.aaload, 1) := by decide +kernel
theorem dX3_allComfort_25 : decode cX3_allComfort 25 = .ok (.getfield 106, 3) := by decide +kernel
theorem dX3_allComfort_28 : decode cX3_allComfort 28 = .ok (.iadd, 1) := by decide +kernel
theorem dX3_allComfort_29 : decode cX3_allComfort 29 = .ok (.istore_n 1, 1) := by decide +kernel
theorem dX3_allComfort_30 : decode cX3_allComfort 30 = .ok (.iinc 2 1, 3) := by decide +kernel
theorem dX3_allComfort_33 : decode cX3_allComfort 33 = .ok (.goto (-29), 3) := by decide +kernel
theorem dX3_allComfort_36 : decode cX3_allComfort 36 = .ok (.iload_n 1, 1) := by decide +kernel
theorem dX3_allComfort_37 : decode cX3_allComfort 37 = .ok (.ireturn, 1) := by decide +kernel
theorem dX3_openWindows_0 : decode cX3_openWindows 0 = .ok (.iconst 0, 1) := by decide +kernel
theorem dX3_openWindows_1 : decode cX3_openWindows 1 = .ok (.istore_n 1, 1) := by decide +kernel
theorem dX3_openWindows_2 : decode cX3_openWindows 2 = .ok (.iconst 0, 1) := by decide +kernel
theorem dX3_openWindows_3 : decode cX3_openWindows 3 = .ok (.istore_n 2, 1) := by decide +kernel
theorem dX3_openWindows_4 : decode cX3_openWindows 4 = .ok (.iload_n 2, 1) := by decide +kernel
theorem dX3_openWindows_5 : decode cX3_openWindows 5 = .ok (.aload_n 0, 1) := by decide +kernel
theorem dX3_openWindows_6 : decode cX3_openWindows 6 = .ok (.getfield 64, 3) := by decide +kernel
theorem dX3_openWindows_9 : decode cX3_openWindows 9 = .ok (.if_icmp .ge 35, 3) := by decide +kernel
theorem dX3_openWindows_12 : decode cX3_openWindows 12 = .ok (.iload_n 2, 1) := by decide +kernel
theorem dX3_openWindows_13 : decode cX3_openWindows 13 = .ok (.bipush 6, 2) := by decide +kernel
theorem dX3_openWindows_15 : decode cX3_openWindows 15 = .ok (.if_icmp .ge 29, 3) := by decide +kernel
theorem dX3_openWindows_18 : decode cX3_openWindows 18 = .ok (.iload_n 1, 1) := by decide +kernel
theorem dX3_openWindows_19 : decode cX3_openWindows 19 = .ok (.aload_n 0, 1) := by decide +kernel
theorem dX3_openWindows_20 : decode cX3_openWindows 20 = .ok (.getfield 23, 3) := by decide +kernel
theorem dX3_openWindows_23 : decode cX3_openWindows 23 = .ok (.iload_n 2, 1) := by decide +kernel
theorem dX3_openWindows_24 : decode cX3_openWindows 24 = .ok (.aaload, 1) := by decide +kernel
theorem dX3_openWindows_25 : decode cX3_openWindows 25 = .ok (.getfield 90, 3) := by decide +kernel
theorem dX3_openWindows_28 : decode cX3_openWindows 28 = .ok (.ifCond .eq 7, 3) := by decide +kernel
theorem dX3_openWindows_31 : decode cX3_openWindows 31 = .ok (.iconst 1, 1) := by decide +kernel
theorem dX3_openWindows_32 : decode cX3_openWindows 32 = .ok (.goto 4, 3) := by decide +kernel
theorem dX3_openWindows_35 : decode cX3_openWindows 35 = .ok (.iconst 0, 1) := by decide +kernel
theorem dX3_openWindows_36 : decode cX3_openWindows 36 = .ok (.iadd, 1) := by decide +kernel
theorem dX3_openWindows_37 : decode cX3_openWindows 37 = .ok (.istore_n 1, 1) := by decide +kernel
theorem dX3_openWindows_38 : decode cX3_openWindows 38 = .ok (.iinc 2 1, 3) := by decide +kernel
theorem dX3_openWindows_41 : decode cX3_openWindows 41 = .ok (.goto (-37), 3) := by decide +kernel
theorem dX3_openWindows_44 : decode cX3_openWindows 44 = .ok (.iload_n 1, 1) := by decide +kernel
theorem dX3_openWindows_45 : decode cX3_openWindows 45 = .ok (.ireturn, 1) := by decide +kernel
theorem dX3_heatMade_0 : decode cX3_heatMade 0 = .ok (.aload_n 0, 1) := by decide +kernel
theorem dX3_heatMade_1 : decode cX3_heatMade 1 = .ok (.getfield 30, 3) := by decide +kernel
theorem dX3_heatMade_4 : decode cX3_heatMade 4 = .ok (.bipush 9, 2) := by decide +kernel
theorem dX3_heatMade_6 : decode cX3_heatMade 6 = .ok (.iconst 0, 1) := by decide +kernel
theorem dX3_heatMade_7 : decode cX3_heatMade 7 = .ok (.invokevirtual 109, 3) := by decide +kernel
theorem dX3_heatMade_10 : decode cX3_heatMade 10 = .ok (.ireturn, 1) := by decide +kernel
theorem dX3_isAsWarmAsWanted_0 : decode cX3_isAsWarmAsWanted 0 = .ok (.aload_n 0, 1) := by decide +kernel
theorem dX3_isAsWarmAsWanted_1 : decode cX3_isAsWarmAsWanted 1 = .ok (.iload_n 1, 1) := by decide +kernel
theorem dX3_isAsWarmAsWanted_2 : decode cX3_isAsWarmAsWanted 2 = .ok (.invokevirtual 86, 3) := by decide +kernel
theorem dX3_isAsWarmAsWanted_5 : decode cX3_isAsWarmAsWanted 5 = .ok (.ifCond .eq 26, 3) := by decide +kernel
theorem dX3_isAsWarmAsWanted_8 : decode cX3_isAsWarmAsWanted 8 = .ok (.aload_n 0, 1) := by decide +kernel
theorem dX3_isAsWarmAsWanted_9 : decode cX3_isAsWarmAsWanted 9 = .ok (.iconst 2, 1) := by decide +kernel
theorem dX3_isAsWarmAsWanted_10 : decode cX3_isAsWarmAsWanted 10 = .ok (.iload_n 1, 1) := by decide +kernel
theorem dX3_isAsWarmAsWanted_11 : decode cX3_isAsWarmAsWanted 11 = .ok (.iadd, 1) := by decide +kernel
theorem dX3_isAsWarmAsWanted_12 : decode cX3_isAsWarmAsWanted 12 = .ok (.invokevirtual 112, 3) := by decide +kernel
theorem dX3_isAsWarmAsWanted_15 : decode cX3_isAsWarmAsWanted 15 = .ok (.aload_n 0, 1) := by decide +kernel
theorem dX3_isAsWarmAsWanted_16 : decode cX3_isAsWarmAsWanted 16 = .ok (.getfield 23, 3) := by decide +kernel
theorem dX3_isAsWarmAsWanted_19 : decode cX3_isAsWarmAsWanted 19 = .ok (.iload_n 1, 1) := by decide +kernel
theorem dX3_isAsWarmAsWanted_20 : decode cX3_isAsWarmAsWanted 20 = .ok (.aaload, 1) := by decide +kernel
theorem dX3_isAsWarmAsWanted_21 : decode cX3_isAsWarmAsWanted 21 = .ok (.getfield 116, 3) := by decide +kernel
theorem dX3_isAsWarmAsWanted_24 : decode cX3_isAsWarmAsWanted 24 = .ok (.if_icmp .lt 7, 3) := by decide +kernel
theorem dX3_isAsWarmAsWanted_27 : decode cX3_isAsWarmAsWanted 27 = .ok (.iconst 1, 1) := by decide +kernel
theorem dX3_isAsWarmAsWanted_28 : decode cX3_isAsWarmAsWanted 28 = .ok (.goto 4, 3) := by decide +kernel
theorem dX3_isAsWarmAsWanted_31 : decode cX3_isAsWarmAsWanted 31 = .ok (.iconst 0, 1) := by decide +kernel
theorem dX3_isAsWarmAsWanted_32 : decode cX3_isAsWarmAsWanted 32 = .ok (.ireturn, 1) := by decide +kernel
theorem dX3_warmRooms_0 : decode cX3_warmRooms 0 = .ok (.iconst 0, 1) := by decide +kernel
theorem dX3_warmRooms_1 : decode cX3_warmRooms 1 = .ok (.istore_n 1, 1) := by decide +kernel
theorem dX3_warmRooms_2 : decode cX3_warmRooms 2 = .ok (.iconst 0, 1) := by decide +kernel
theorem dX3_warmRooms_3 : decode cX3_warmRooms 3 = .ok (.istore_n 2, 1) := by decide +kernel
theorem dX3_warmRooms_4 : decode cX3_warmRooms 4 = .ok (.iload_n 2, 1) := by decide +kernel
theorem dX3_warmRooms_5 : decode cX3_warmRooms 5 = .ok (.aload_n 0, 1) := by decide +kernel
theorem dX3_warmRooms_6 : decode cX3_warmRooms 6 = .ok (.getfield 64, 3) := by decide +kernel
theorem dX3_warmRooms_9 : decode cX3_warmRooms 9 = .ok (.if_icmp .ge 29, 3) := by decide +kernel
theorem dX3_warmRooms_12 : decode cX3_warmRooms 12 = .ok (.iload_n 2, 1) := by decide +kernel
theorem dX3_warmRooms_13 : decode cX3_warmRooms 13 = .ok (.bipush 6, 2) := by decide +kernel
theorem dX3_warmRooms_15 : decode cX3_warmRooms 15 = .ok (.if_icmp .ge 23, 3) := by decide +kernel
theorem dX3_warmRooms_18 : decode cX3_warmRooms 18 = .ok (.aload_n 0, 1) := by decide +kernel
theorem dX3_warmRooms_19 : decode cX3_warmRooms 19 = .ok (.iload_n 2, 1) := by decide +kernel
theorem dX3_warmRooms_20 : decode cX3_warmRooms 20 = .ok (.invokevirtual 119, 3) := by decide +kernel
theorem dX3_warmRooms_23 : decode cX3_warmRooms 23 = .ok (.ifCond .eq 9, 3) := by decide +kernel
theorem dX3_warmRooms_26 : decode cX3_warmRooms 26 = .ok (.iload_n 1, 1) := by decide +kernel
theorem dX3_warmRooms_27 : decode cX3_warmRooms 27 = .ok (.iconst 1, 1) := by decide +kernel
theorem dX3_warmRooms_28 : decode cX3_warmRooms 28 = .ok (.iload_n 2, 1) := by decide +kernel
theorem dX3_warmRooms_29 : decode cX3_warmRooms 29 = .ok (.ishl, 1) := by decide +kernel
theorem dX3_warmRooms_30 : decode cX3_warmRooms 30 = .ok (.ior, 1) := by decide +kernel
theorem dX3_warmRooms_31 : decode cX3_warmRooms 31 = .ok (.istore_n 1, 1) := by decide +kernel
theorem dX3_warmRooms_32 : decode cX3_warmRooms 32 = .ok (.iinc 2 1, 3) := by decide +kernel
theorem dX3_warmRooms_35 : decode cX3_warmRooms 35 = .ok (.goto (-31), 3) := by decide +kernel
theorem dX3_warmRooms_38 : decode cX3_warmRooms 38 = .ok (.iload_n 1, 1) := by decide +kernel
theorem dX3_warmRooms_39 : decode cX3_warmRooms 39 = .ok (.ireturn, 1) := by decide +kernel
theorem dX3_loopShouldHave_0 : decode cX3_loopShouldHave 0 = .ok (.aload_n 0, 1) := by decide +kernel
theorem dX3_loopShouldHave_1 : decode cX3_loopShouldHave 1 = .ok (.getfield 42, 3) := by decide +kernel
theorem dX3_loopShouldHave_4 : decode cX3_loopShouldHave 4 = .ok (.bipush 20, 2) := by decide +kernel
theorem dX3_loopShouldHave_6 : decode cX3_loopShouldHave 6 = .ok (.if_icmp .lt 6, 3) := by decide +kernel
theorem dX3_loopShouldHave_9 : decode cX3_loopShouldHave 9 = .ok (.bipush 20, 2) := by decide +kernel
theorem dX3_loopShouldHave_11 : decode cX3_loopShouldHave 11 = .ok (.ireturn, 1) := by decide +kernel
theorem dX3_loopShouldHave_12 : decode cX3_loopShouldHave 12 = .ok (.bipush 70, 2) := by decide +kernel
theorem dX3_loopShouldHave_14 : decode cX3_loopShouldHave 14 = .ok (.bipush 20, 2) := by decide +kernel
theorem dX3_loopShouldHave_16 : decode cX3_loopShouldHave 16 = .ok (.aload_n 0, 1) := by decide +kernel
theorem dX3_loopShouldHave_17 : decode cX3_loopShouldHave 17 = .ok (.iconst 4, 1) := by decide +kernel
theorem dX3_loopShouldHave_18 : decode cX3_loopShouldHave 18 = .ok (.invokevirtual 122, 3) := by decide +kernel
theorem dX3_loopShouldHave_21 : decode cX3_loopShouldHave 21 = .ok (.bipush 20, 2) := by decide +kernel
theorem dX3_loopShouldHave_23 : decode cX3_loopShouldHave 23 = .ok (.aload_n 0, 1) := by decide +kernel
theorem dX3_loopShouldHave_24 : decode cX3_loopShouldHave 24 = .ok (.getfield 42, 3) := by decide +kernel
theorem dX3_loopShouldHave_27 : decode cX3_loopShouldHave 27 = .ok (.isub, 1) := by decide +kernel
theorem dX3_loopShouldHave_28 : decode cX3_loopShouldHave 28 = .ok (.imul, 1) := by decide +kernel
theorem dX3_loopShouldHave_29 : decode cX3_loopShouldHave 29 = .ok (.bipush 10, 2) := by decide +kernel
theorem dX3_loopShouldHave_31 : decode cX3_loopShouldHave 31 = .ok (.idiv, 1) := by decide +kernel
theorem dX3_loopShouldHave_32 : decode cX3_loopShouldHave 32 = .ok (.iadd, 1) := by decide +kernel
theorem dX3_loopShouldHave_33 : decode cX3_loopShouldHave 33 = .ok (.invokestatic 125, 3) := by decide +kernel
theorem dX3_loopShouldHave_36 : decode cX3_loopShouldHave 36 = .ok (.ireturn, 1) := by decide +kernel
theorem dX3_advance_0 : decode cX3_advance 0 = .ok (.iconst 0, 1) := by decide +kernel
theorem dX3_advance_1 : decode cX3_advance 1 = .ok (.istore_n 2, 1) := by decide +kernel
theorem dX3_advance_2 : decode cX3_advance 2 = .ok (.iload_n 2, 1) := by decide +kernel
theorem dX3_advance_3 : decode cX3_advance 3 = .ok (.iload_n 1, 1) := by decide +kernel
theorem dX3_advance_4 : decode cX3_advance 4 = .ok (.if_icmp .ge 57, 3) := by decide +kernel
theorem dX3_advance_7 : decode cX3_advance 7 = .ok (.aload_n 0, 1) := by decide +kernel
theorem dX3_advance_8 : decode cX3_advance 8 = .ok (.invokevirtual 128, 3) := by decide +kernel
theorem dX3_advance_11 : decode cX3_advance 11 = .ok (.aload_n 0, 1) := by decide +kernel
theorem dX3_advance_12 : decode cX3_advance 12 = .ok (.invokevirtual 131, 3) := by decide +kernel
theorem dX3_advance_15 : decode cX3_advance 15 = .ok (.aload_n 0, 1) := by decide +kernel
theorem dX3_advance_16 : decode cX3_advance 16 = .ok (.invokevirtual 134, 3) := by decide +kernel
theorem dX3_advance_19 : decode cX3_advance 19 = .ok (.aload_n 0, 1) := by decide +kernel
theorem dX3_advance_20 : decode cX3_advance 20 = .ok (.invokevirtual 137, 3) := by decide +kernel
theorem dX3_advance_23 : decode cX3_advance 23 = .ok (.aload_n 0, 1) := by decide +kernel
theorem dX3_advance_24 : decode cX3_advance 24 = .ok (.invokevirtual 140, 3) := by decide +kernel
theorem dX3_advance_27 : decode cX3_advance 27 = .ok (.aload_n 0, 1) := by decide +kernel
theorem dX3_advance_28 : decode cX3_advance 28 = .ok (.invokevirtual 143, 3) := by decide +kernel
theorem dX3_advance_31 : decode cX3_advance 31 = .ok (.aload_n 0, 1) := by decide +kernel
theorem dX3_advance_32 : decode cX3_advance 32 = .ok (.invokevirtual 146, 3) := by decide +kernel
theorem dX3_advance_35 : decode cX3_advance 35 = .ok (.aload_n 0, 1) := by decide +kernel
theorem dX3_advance_36 : decode cX3_advance 36 = .ok (.dup, 1) := by decide +kernel
theorem dX3_advance_37 : decode cX3_advance 37 = .ok (.getfield 38, 3) := by decide +kernel
theorem dX3_advance_40 : decode cX3_advance 40 = .ok (.iconst 1, 1) := by decide +kernel
theorem dX3_advance_41 : decode cX3_advance 41 = .ok (.iadd, 1) := by decide +kernel
theorem dX3_advance_42 : decode cX3_advance 42 = .ok (.putfield 38, 3) := by decide +kernel
theorem dX3_advance_45 : decode cX3_advance 45 = .ok (.aload_n 0, 1) := by decide +kernel
theorem dX3_advance_46 : decode cX3_advance 46 = .ok (.dup, 1) := by decide +kernel
theorem dX3_advance_47 : decode cX3_advance 47 = .ok (.getfield 49, 3) := by decide +kernel
theorem dX3_advance_50 : decode cX3_advance 50 = .ok (.iconst 1, 1) := by decide +kernel
theorem dX3_advance_51 : decode cX3_advance 51 = .ok (.iadd, 1) := by decide +kernel
theorem dX3_advance_52 : decode cX3_advance 52 = .ok (.putfield 49, 3) := by decide +kernel
theorem dX3_advance_55 : decode cX3_advance 55 = .ok (.iinc 2 1, 3) := by decide +kernel
theorem dX3_advance_58 : decode cX3_advance 58 = .ok (.goto (-56), 3) := by decide +kernel
theorem dX3_advance_61 : decode cX3_advance 61 = .ok (.return_, 1) := by decide +kernel
theorem dX3_turnSeason_0 : decode cX3_turnSeason 0 = .ok (.aload_n 0, 1) := by decide +kernel
theorem dX3_turnSeason_1 : decode cX3_turnSeason 1 = .ok (.getfield 42, 3) := by decide +kernel
theorem dX3_turnSeason_4 : decode cX3_turnSeason 4 = .ok (.aload_n 0, 1) := by decide +kernel
theorem dX3_turnSeason_5 : decode cX3_turnSeason 5 = .ok (.bipush 8, 2) := by decide +kernel
theorem dX3_turnSeason_7 : decode cX3_turnSeason 7 = .ok (.invokevirtual 122, 3) := by decide +kernel
theorem dX3_turnSeason_10 : decode cX3_turnSeason 10 = .ok (.if_icmp .lt 7, 3) := by decide +kernel
theorem dX3_turnSeason_13 : decode cX3_turnSeason 13 = .ok (.iconst 1, 1) := by decide +kernel
theorem dX3_turnSeason_14 : decode cX3_turnSeason 14 = .ok (.goto 4, 3) := by decide +kernel
theorem dX3_turnSeason_17 : decode cX3_turnSeason 17 = .ok (.iconst 0, 1) := by decide +kernel
theorem dX3_turnSeason_18 : decode cX3_turnSeason 18 = .ok (.istore_n 1, 1) := by decide +kernel
theorem dX3_turnSeason_19 : decode cX3_turnSeason 19 = .ok (.aload_n 0, 1) := by decide +kernel
theorem dX3_turnSeason_20 : decode cX3_turnSeason 20 = .ok (.iload_n 1, 1) := by decide +kernel
theorem dX3_turnSeason_21 : decode cX3_turnSeason 21 = .ok (.aload_n 0, 1) := by decide +kernel
theorem dX3_turnSeason_22 : decode cX3_turnSeason 22 = .ok (.getfield 58, 3) := by decide +kernel
theorem dX3_turnSeason_25 : decode cX3_turnSeason 25 = .ok (.if_icmp .eq 12, 3) := by decide +kernel
theorem dX3_turnSeason_28 : decode cX3_turnSeason 28 = .ok (.aload_n 0, 1) := by decide +kernel
theorem dX3_turnSeason_29 : decode cX3_turnSeason 29 = .ok (.getfield 61, 3) := by decide +kernel
theorem dX3_turnSeason_32 : decode cX3_turnSeason 32 = .ok (.iconst 1, 1) := by decide +kernel
theorem dX3_turnSeason_33 : decode cX3_turnSeason 33 = .ok (.iadd, 1) := by decide +kernel
theorem dX3_turnSeason_34 : decode cX3_turnSeason 34 = .ok (.goto 4, 3) := by decide +kernel
theorem dX3_turnSeason_37 : decode cX3_turnSeason 37 = .ok (.iconst 0, 1) := by decide +kernel
theorem dX3_turnSeason_38 : decode cX3_turnSeason 38 = .ok (.putfield 61, 3) := by decide +kernel
theorem dX3_turnSeason_41 : decode cX3_turnSeason 41 = .ok (.aload_n 0, 1) := by decide +kernel
theorem dX3_turnSeason_42 : decode cX3_turnSeason 42 = .ok (.getfield 61, 3) := by decide +kernel
theorem dX3_turnSeason_45 : decode cX3_turnSeason 45 = .ok (.bipush 60, 2) := by decide +kernel
theorem dX3_turnSeason_47 : decode cX3_turnSeason 47 = .ok (.if_icmp .lt 24, 3) := by decide +kernel
theorem dX3_turnSeason_50 : decode cX3_turnSeason 50 = .ok (.aload_n 0, 1) := by decide +kernel
theorem dX3_turnSeason_51 : decode cX3_turnSeason 51 = .ok (.aload_n 0, 1) := by decide +kernel
theorem dX3_turnSeason_52 : decode cX3_turnSeason 52 = .ok (.getfield 58, 3) := by decide +kernel
theorem dX3_turnSeason_55 : decode cX3_turnSeason 55 = .ok (.ifCond .ne 7, 3) := by decide +kernel
theorem dX3_turnSeason_58 : decode cX3_turnSeason 58 = .ok (.iconst 1, 1) := by decide +kernel
theorem dX3_turnSeason_59 : decode cX3_turnSeason 59 = .ok (.goto 4, 3) := by decide +kernel
theorem dX3_turnSeason_62 : decode cX3_turnSeason 62 = .ok (.iconst 0, 1) := by decide +kernel
theorem dX3_turnSeason_63 : decode cX3_turnSeason 63 = .ok (.putfield 58, 3) := by decide +kernel
theorem dX3_turnSeason_66 : decode cX3_turnSeason 66 = .ok (.aload_n 0, 1) := by decide +kernel
theorem dX3_turnSeason_67 : decode cX3_turnSeason 67 = .ok (.iconst 0, 1) := by decide +kernel
theorem dX3_turnSeason_68 : decode cX3_turnSeason 68 = .ok (.putfield 61, 3) := by decide +kernel
theorem dX3_turnSeason_71 : decode cX3_turnSeason 71 = .ok (.return_, 1) := by decide +kernel
theorem dX3_runBoiler_0 : decode cX3_runBoiler 0 = .ok (.aload_n 0, 1) := by decide +kernel
theorem dX3_runBoiler_1 : decode cX3_runBoiler 1 = .ok (.getfield 45, 3) := by decide +kernel
theorem dX3_runBoiler_4 : decode cX3_runBoiler 4 = .ok (.ifCond .eq 23, 3) := by decide +kernel
theorem dX3_runBoiler_7 : decode cX3_runBoiler 7 = .ok (.aload_n 0, 1) := by decide +kernel
theorem dX3_runBoiler_8 : decode cX3_runBoiler 8 = .ok (.invokevirtual 149, 3) := by decide +kernel
theorem dX3_runBoiler_11 : decode cX3_runBoiler 11 = .ok (.ifCond .eq 43, 3) := by decide +kernel
theorem dX3_runBoiler_14 : decode cX3_runBoiler 14 = .ok (.aload_n 0, 1) := by decide +kernel
theorem dX3_runBoiler_15 : decode cX3_runBoiler 15 = .ok (.iconst 0, 1) := by decide +kernel
theorem dX3_runBoiler_16 : decode cX3_runBoiler 16 = .ok (.putfield 45, 3) := by decide +kernel
theorem dX3_runBoiler_19 : decode cX3_runBoiler 19 = .ok (.aload_n 0, 1) := by decide +kernel
theorem dX3_runBoiler_20 : decode cX3_runBoiler 20 = .ok (.iconst 0, 1) := by decide +kernel
theorem dX3_runBoiler_21 : decode cX3_runBoiler 21 = .ok (.putfield 49, 3) := by decide +kernel
theorem dX3_runBoiler_24 : decode cX3_runBoiler 24 = .ok (.goto 30, 3) := by decide +kernel
theorem dX3_runBoiler_27 : decode cX3_runBoiler 27 = .ok (.aload_n 0, 1) := by decide +kernel
theorem dX3_runBoiler_28 : decode cX3_runBoiler 28 = .ok (.invokevirtual 153, 3) := by decide +kernel
theorem dX3_runBoiler_31 : decode cX3_runBoiler 31 = .ok (.ifCond .eq 23, 3) := by decide +kernel
theorem dX3_runBoiler_34 : decode cX3_runBoiler 34 = .ok (.aload_n 0, 1) := by decide +kernel
theorem dX3_runBoiler_35 : decode cX3_runBoiler 35 = .ok (.iconst 1, 1) := by decide +kernel
theorem dX3_runBoiler_36 : decode cX3_runBoiler 36 = .ok (.putfield 45, 3) := by decide +kernel
theorem dX3_runBoiler_39 : decode cX3_runBoiler 39 = .ok (.aload_n 0, 1) := by decide +kernel
theorem dX3_runBoiler_40 : decode cX3_runBoiler 40 = .ok (.iconst 0, 1) := by decide +kernel
theorem dX3_runBoiler_41 : decode cX3_runBoiler 41 = .ok (.putfield 49, 3) := by decide +kernel
theorem dX3_runBoiler_44 : decode cX3_runBoiler 44 = .ok (.aload_n 0, 1) := by decide +kernel
theorem dX3_runBoiler_45 : decode cX3_runBoiler 45 = .ok (.dup, 1) := by decide +kernel
theorem dX3_runBoiler_46 : decode cX3_runBoiler 46 = .ok (.getfield 52, 3) := by decide +kernel
theorem dX3_runBoiler_49 : decode cX3_runBoiler 49 = .ok (.iconst 1, 1) := by decide +kernel
theorem dX3_runBoiler_50 : decode cX3_runBoiler 50 = .ok (.iadd, 1) := by decide +kernel
theorem dX3_runBoiler_51 : decode cX3_runBoiler 51 = .ok (.putfield 52, 3) := by decide +kernel
theorem dX3_runBoiler_54 : decode cX3_runBoiler 54 = .ok (.aload_n 0, 1) := by decide +kernel
theorem dX3_runBoiler_55 : decode cX3_runBoiler 55 = .ok (.getfield 45, 3) := by decide +kernel
theorem dX3_runBoiler_58 : decode cX3_runBoiler 58 = .ok (.ifCond .eq 15, 3) := by decide +kernel
theorem dX3_runBoiler_61 : decode cX3_runBoiler 61 = .ok (.aload_n 0, 1) := by decide +kernel
theorem dX3_runBoiler_62 : decode cX3_runBoiler 62 = .ok (.bipush 9, 2) := by decide +kernel
theorem dX3_runBoiler_64 : decode cX3_runBoiler 64 = .ok (.iconst 0, 1) := by decide +kernel
theorem dX3_runBoiler_65 : decode cX3_runBoiler 65 = .ok (.aload_n 0, 1) := by decide +kernel
theorem dX3_runBoiler_66 : decode cX3_runBoiler 66 = .ok (.iconst 0, 1) := by decide +kernel
theorem dX3_runBoiler_67 : decode cX3_runBoiler 67 = .ok (.invokevirtual 122, 3) := by decide +kernel
theorem dX3_runBoiler_70 : decode cX3_runBoiler 70 = .ok (.invokevirtual 97, 3) := by decide +kernel
theorem dX3_runBoiler_73 : decode cX3_runBoiler 73 = .ok (.return_, 1) := by decide +kernel
theorem dX3_mustStop_0 : decode cX3_mustStop 0 = .ok (.aload_n 0, 1) := by decide +kernel
theorem dX3_mustStop_1 : decode cX3_mustStop 1 = .ok (.iconst 0, 1) := by decide +kernel
theorem dX3_mustStop_2 : decode cX3_mustStop 2 = .ok (.invokevirtual 112, 3) := by decide +kernel
theorem dX3_mustStop_5 : decode cX3_mustStop 5 = .ok (.istore_n 1, 1) := by decide +kernel
theorem dX3_mustStop_6 : decode cX3_mustStop 6 = .ok (.iload_n 1, 1) := by decide +kernel
theorem dX3_mustStop_7 : decode cX3_mustStop 7 = .ok (.bipush 90, 2) := by decide +kernel
theorem dX3_mustStop_9 : decode cX3_mustStop 9 = .ok (.if_icmp .lt 5, 3) := by decide +kernel
theorem dX3_mustStop_12 : decode cX3_mustStop 12 = .ok (.iconst 1, 1) := by decide +kernel
theorem dX3_mustStop_13 : decode cX3_mustStop 13 = .ok (.ireturn, 1) := by decide +kernel
theorem dX3_mustStop_14 : decode cX3_mustStop 14 = .ok (.aload_n 0, 1) := by decide +kernel
theorem dX3_mustStop_15 : decode cX3_mustStop 15 = .ok (.getfield 49, 3) := by decide +kernel
theorem dX3_mustStop_18 : decode cX3_mustStop 18 = .ok (.aload_n 0, 1) := by decide +kernel
theorem dX3_mustStop_19 : decode cX3_mustStop 19 = .ok (.iconst 2, 1) := by decide +kernel
theorem dX3_mustStop_20 : decode cX3_mustStop 20 = .ok (.invokevirtual 122, 3) := by decide +kernel
theorem dX3_mustStop_23 : decode cX3_mustStop 23 = .ok (.if_icmp .lt 25, 3) := by decide +kernel
theorem dX3_mustStop_26 : decode cX3_mustStop 26 = .ok (.aload_n 0, 1) := by decide +kernel
theorem dX3_mustStop_27 : decode cX3_mustStop 27 = .ok (.getfield 58, 3) := by decide +kernel
theorem dX3_mustStop_30 : decode cX3_mustStop 30 = .ok (.ifCond .ne 14, 3) := by decide +kernel
theorem dX3_mustStop_33 : decode cX3_mustStop 33 = .ok (.iload_n 1, 1) := by decide +kernel
theorem dX3_mustStop_34 : decode cX3_mustStop 34 = .ok (.aload_n 0, 1) := by decide +kernel
theorem dX3_mustStop_35 : decode cX3_mustStop 35 = .ok (.iconst 1, 1) := by decide +kernel
theorem dX3_mustStop_36 : decode cX3_mustStop 36 = .ok (.invokevirtual 122, 3) := by decide +kernel
theorem dX3_mustStop_39 : decode cX3_mustStop 39 = .ok (.iconst 5, 1) := by decide +kernel
theorem dX3_mustStop_40 : decode cX3_mustStop 40 = .ok (.iadd, 1) := by decide +kernel
theorem dX3_mustStop_41 : decode cX3_mustStop 41 = .ok (.if_icmp .lt 7, 3) := by decide +kernel
theorem dX3_mustStop_44 : decode cX3_mustStop 44 = .ok (.iconst 1, 1) := by decide +kernel
theorem dX3_mustStop_45 : decode cX3_mustStop 45 = .ok (.goto 4, 3) := by decide +kernel
theorem dX3_mustStop_48 : decode cX3_mustStop 48 = .ok (.iconst 0, 1) := by decide +kernel
theorem dX3_mustStop_49 : decode cX3_mustStop 49 = .ok (.ireturn, 1) := by decide +kernel
theorem dX3_mayStart_0 : decode cX3_mayStart 0 = .ok (.aload_n 0, 1) := by decide +kernel
theorem dX3_mayStart_1 : decode cX3_mayStart 1 = .ok (.getfield 49, 3) := by decide +kernel
theorem dX3_mayStart_4 : decode cX3_mayStart 4 = .ok (.aload_n 0, 1) := by decide +kernel
theorem dX3_mayStart_5 : decode cX3_mayStart 5 = .ok (.iconst 3, 1) := by decide +kernel
theorem dX3_mayStart_6 : decode cX3_mayStart 6 = .ok (.invokevirtual 122, 3) := by decide +kernel
theorem dX3_mayStart_9 : decode cX3_mayStart 9 = .ok (.if_icmp .lt 35, 3) := by decide +kernel
theorem dX3_mayStart_12 : decode cX3_mayStart 12 = .ok (.aload_n 0, 1) := by decide +kernel
theorem dX3_mayStart_13 : decode cX3_mayStart 13 = .ok (.getfield 58, 3) := by decide +kernel
theorem dX3_mayStart_16 : decode cX3_mayStart 16 = .ok (.ifCond .ne 28, 3) := by decide +kernel
theorem dX3_mayStart_19 : decode cX3_mayStart 19 = .ok (.aload_n 0, 1) := by decide +kernel
theorem dX3_mayStart_20 : decode cX3_mayStart 20 = .ok (.iconst 0, 1) := by decide +kernel
theorem dX3_mayStart_21 : decode cX3_mayStart 21 = .ok (.invokevirtual 122, 3) := by decide +kernel
theorem dX3_mayStart_24 : decode cX3_mayStart 24 = .ok (.ifCond .eq 20, 3) := by decide +kernel
theorem dX3_mayStart_27 : decode cX3_mayStart 27 = .ok (.aload_n 0, 1) := by decide +kernel
theorem dX3_mayStart_28 : decode cX3_mayStart 28 = .ok (.iconst 0, 1) := by decide +kernel
theorem dX3_mayStart_29 : decode cX3_mayStart 29 = .ok (.invokevirtual 112, 3) := by decide +kernel
theorem dX3_mayStart_32 : decode cX3_mayStart 32 = .ok (.aload_n 0, 1) := by decide +kernel
theorem dX3_mayStart_33 : decode cX3_mayStart 33 = .ok (.iconst 1, 1) := by decide +kernel
theorem dX3_mayStart_34 : decode cX3_mayStart 34 = .ok (.invokevirtual 122, 3) := by decide +kernel
theorem dX3_mayStart_37 : decode cX3_mayStart 37 = .ok (.if_icmp .ge 7, 3) := by decide +kernel
theorem dX3_mayStart_40 : decode cX3_mayStart 40 = .ok (.iconst 1, 1) := by decide +kernel
theorem dX3_mayStart_41 : decode cX3_mayStart 41 = .ok (.goto 4, 3) := by decide +kernel
theorem dX3_mayStart_44 : decode cX3_mayStart 44 = .ok (.iconst 0, 1) := by decide +kernel
theorem dX3_mayStart_45 : decode cX3_mayStart 45 = .ok (.ireturn, 1) := by decide +kernel
theorem dX3_moveValve_0 : decode cX3_moveValve 0 = .ok (.aload_n 0, 1) := by decide +kernel
theorem dX3_moveValve_1 : decode cX3_moveValve 1 = .ok (.getfield 58, 3) := by decide +kernel
theorem dX3_moveValve_4 : decode cX3_moveValve 4 = .ok (.ifCond .eq 24, 3) := by decide +kernel
theorem dX3_moveValve_7 : decode cX3_moveValve 7 = .ok (.aload_n 0, 1) := by decide +kernel
theorem dX3_moveValve_8 : decode cX3_moveValve 8 = .ok (.aload_n 0, 1) := by decide +kernel
theorem dX3_moveValve_9 : decode cX3_moveValve 9 = .ok (.getfield 38, 3) := by decide +kernel
theorem dX3_moveValve_12 : decode cX3_moveValve 12 = .ok (.bipush 30, 2) := by decide +kernel
theorem dX3_moveValve_14 : decode cX3_moveValve 14 = .ok (.irem, 1) := by decide +kernel
theorem dX3_moveValve_15 : decode cX3_moveValve 15 = .ok (.ifCond .ne 8, 3) := by decide +kernel
theorem dX3_moveValve_18 : decode cX3_moveValve 18 = .ok (.bipush 100, 2) := by decide +kernel
theorem dX3_moveValve_20 : decode cX3_moveValve 20 = .ok (.goto 4, 3) := by decide +kernel
theorem dX3_moveValve_23 : decode cX3_moveValve 23 = .ok (.iconst 0, 1) := by decide +kernel
theorem dX3_moveValve_24 : decode cX3_moveValve 24 = .ok (.putfield 55, 3) := by decide +kernel
theorem dX3_moveValve_27 : decode cX3_moveValve 27 = .ok (.return_, 1) := by decide +kernel
theorem dX3_moveValve_28 : decode cX3_moveValve 28 = .ok (.aload_n 0, 1) := by decide +kernel
theorem dX3_moveValve_29 : decode cX3_moveValve 29 = .ok (.invokevirtual 156, 3) := by decide +kernel
theorem dX3_moveValve_32 : decode cX3_moveValve 32 = .ok (.istore_n 1, 1) := by decide +kernel
theorem dX3_moveValve_33 : decode cX3_moveValve 33 = .ok (.aload_n 0, 1) := by decide +kernel
theorem dX3_moveValve_34 : decode cX3_moveValve 34 = .ok (.invokevirtual 160, 3) := by decide +kernel
theorem dX3_moveValve_37 : decode cX3_moveValve 37 = .ok (.ifCond .eq 10, 3) := by decide +kernel
theorem dX3_moveValve_40 : decode cX3_moveValve 40 = .ok (.bipush 20, 2) := by decide +kernel
theorem dX3_moveValve_42 : decode cX3_moveValve 42 = .ok (.iload_n 1, 1) := by decide +kernel
theorem dX3_moveValve_43 : decode cX3_moveValve 43 = .ok (.invokestatic 125, 3) := by decide +kernel
theorem dX3_moveValve_46 : decode cX3_moveValve 46 = .ok (.istore_n 1, 1) := by decide +kernel
theorem dX3_moveValve_47 : decode cX3_moveValve 47 = .ok (.aload_n 0, 1) := by decide +kernel
theorem dX3_moveValve_48 : decode cX3_moveValve 48 = .ok (.iconst 5, 1) := by decide +kernel
theorem dX3_moveValve_49 : decode cX3_moveValve 49 = .ok (.invokevirtual 122, 3) := by decide +kernel
theorem dX3_moveValve_52 : decode cX3_moveValve 52 = .ok (.istore_n 2, 1) := by decide +kernel
theorem dX3_moveValve_53 : decode cX3_moveValve 53 = .ok (.aload_n 0, 1) := by decide +kernel
theorem dX3_moveValve_54 : decode cX3_moveValve 54 = .ok (.iload_n 1, 1) := by decide +kernel
theorem dX3_moveValve_55 : decode cX3_moveValve 55 = .ok (.aload_n 0, 1) := by decide +kernel
theorem dX3_moveValve_56 : decode cX3_moveValve 56 = .ok (.getfield 55, 3) := by decide +kernel
theorem dX3_moveValve_59 : decode cX3_moveValve 59 = .ok (.if_icmp .le 16, 3) := by decide +kernel
theorem dX3_moveValve_62 : decode cX3_moveValve 62 = .ok (.iload_n 1, 1) := by decide +kernel
theorem dX3_moveValve_63 : decode cX3_moveValve 63 = .ok (.aload_n 0, 1) := by decide +kernel
theorem dX3_moveValve_64 : decode cX3_moveValve 64 = .ok (.getfield 55, 3) := by decide +kernel
theorem dX3_moveValve_67 : decode cX3_moveValve 67 = .ok (.iload_n 2, 1) := by decide +kernel
theorem dX3_moveValve_68 : decode cX3_moveValve 68 = .ok (.iadd, 1) := by decide +kernel
theorem dX3_moveValve_69 : decode cX3_moveValve 69 = .ok (.invokestatic 125, 3) := by decide +kernel
theorem dX3_moveValve_72 : decode cX3_moveValve 72 = .ok (.goto 13, 3) := by decide +kernel
theorem dX3_moveValve_75 : decode cX3_moveValve 75 = .ok (.iload_n 1, 1) := by decide +kernel
theorem dX3_moveValve_76 : decode cX3_moveValve 76 = .ok (.aload_n 0, 1) := by decide +kernel
theorem dX3_moveValve_77 : decode cX3_moveValve 77 = .ok (.getfield 55, 3) := by decide +kernel
theorem dX3_moveValve_80 : decode cX3_moveValve 80 = .ok (.iload_n 2, 1) := by decide +kernel
theorem dX3_moveValve_81 : decode cX3_moveValve 81 = .ok (.isub, 1) := by decide +kernel
theorem dX3_moveValve_82 : decode cX3_moveValve 82 = .ok (.invokestatic 163, 3) := by decide +kernel
theorem dX3_moveValve_85 : decode cX3_moveValve 85 = .ok (.putfield 55, 3) := by decide +kernel
theorem dX3_moveValve_88 : decode cX3_moveValve 88 = .ok (.return_, 1) := by decide +kernel
theorem dX3_isPinched_0 : decode cX3_isPinched 0 = .ok (.aload_n 0, 1) := by decide +kernel
theorem dX3_isPinched_1 : decode cX3_isPinched 1 = .ok (.iconst 0, 1) := by decide +kernel
theorem dX3_isPinched_2 : decode cX3_isPinched 2 = .ok (.invokevirtual 112, 3) := by decide +kernel
theorem dX3_isPinched_5 : decode cX3_isPinched 5 = .ok (.aload_n 0, 1) := by decide +kernel
theorem dX3_isPinched_6 : decode cX3_isPinched 6 = .ok (.bipush 7, 2) := by decide +kernel
theorem dX3_isPinched_8 : decode cX3_isPinched 8 = .ok (.invokevirtual 122, 3) := by decide +kernel
theorem dX3_isPinched_11 : decode cX3_isPinched 11 = .ok (.if_icmp .ge 7, 3) := by decide +kernel
theorem dX3_isPinched_14 : decode cX3_isPinched 14 = .ok (.iconst 1, 1) := by decide +kernel
theorem dX3_isPinched_15 : decode cX3_isPinched 15 = .ok (.goto 4, 3) := by decide +kernel
theorem dX3_isPinched_18 : decode cX3_isPinched 18 = .ok (.iconst 0, 1) := by decide +kernel
theorem dX3_isPinched_19 : decode cX3_isPinched 19 = .ok (.ireturn, 1) := by decide +kernel
theorem dX3_freeTarget_0 : decode cX3_freeTarget 0 = .ok (.aload_n 0, 1) := by decide +kernel
theorem dX3_freeTarget_1 : decode cX3_freeTarget 1 = .ok (.invokevirtual 166, 3) := by decide +kernel
theorem dX3_freeTarget_4 : decode cX3_freeTarget 4 = .ok (.aload_n 0, 1) := by decide +kernel
theorem dX3_freeTarget_5 : decode cX3_freeTarget 5 = .ok (.iconst 1, 1) := by decide +kernel
theorem dX3_freeTarget_6 : decode cX3_freeTarget 6 = .ok (.invokevirtual 112, 3) := by decide +kernel
theorem dX3_freeTarget_9 : decode cX3_freeTarget 9 = .ok (.isub, 1) := by decide +kernel
theorem dX3_freeTarget_10 : decode cX3_freeTarget 10 = .ok (.istore_n 1, 1) := by decide +kernel
theorem dX3_freeTarget_11 : decode cX3_freeTarget 11 = .ok (.iconst 0, 1) := by decide +kernel
theorem dX3_freeTarget_12 : decode cX3_freeTarget 12 = .ok (.bipush 100, 2) := by decide +kernel
theorem dX3_freeTarget_14 : decode cX3_freeTarget 14 = .ok (.bipush 10, 2) := by decide +kernel
theorem dX3_freeTarget_16 : decode cX3_freeTarget 16 = .ok (.iload_n 1, 1) := by decide +kernel
theorem dX3_freeTarget_17 : decode cX3_freeTarget 17 = .ok (.imul, 1) := by decide +kernel
theorem dX3_freeTarget_18 : decode cX3_freeTarget 18 = .ok (.invokestatic 125, 3) := by decide +kernel
theorem dX3_freeTarget_21 : decode cX3_freeTarget 21 = .ok (.invokestatic 163, 3) := by decide +kernel
theorem dX3_freeTarget_24 : decode cX3_freeTarget 24 = .ok (.ireturn, 1) := by decide +kernel
theorem dX3_mix_0 : decode cX3_mix 0 = .ok (.aload_n 0, 1) := by decide +kernel
theorem dX3_mix_1 : decode cX3_mix 1 = .ok (.iconst 0, 1) := by decide +kernel
theorem dX3_mix_2 : decode cX3_mix 2 = .ok (.invokevirtual 112, 3) := by decide +kernel
theorem dX3_mix_5 : decode cX3_mix 5 = .ok (.aload_n 0, 1) := by decide +kernel
theorem dX3_mix_6 : decode cX3_mix 6 = .ok (.iconst 1, 1) := by decide +kernel
theorem dX3_mix_7 : decode cX3_mix 7 = .ok (.invokevirtual 112, 3) := by decide +kernel
theorem dX3_mix_10 : decode cX3_mix 10 = .ok (.isub, 1) := by decide +kernel
theorem dX3_mix_11 : decode cX3_mix 11 = .ok (.istore_n 1, 1) := by decide +kernel
theorem dX3_mix_12 : decode cX3_mix 12 = .ok (.iload_n 1, 1) := by decide +kernel
theorem dX3_mix_13 : decode cX3_mix 13 = .ok (.ifCond .le 25, 3) := by decide +kernel
theorem dX3_mix_16 : decode cX3_mix 16 = .ok (.aload_n 0, 1) := by decide +kernel
theorem dX3_mix_17 : decode cX3_mix 17 = .ok (.iconst 0, 1) := by decide +kernel
theorem dX3_mix_18 : decode cX3_mix 18 = .ok (.iconst 1, 1) := by decide +kernel
theorem dX3_mix_19 : decode cX3_mix 19 = .ok (.aload_n 0, 1) := by decide +kernel
theorem dX3_mix_20 : decode cX3_mix 20 = .ok (.bipush 6, 2) := by decide +kernel
theorem dX3_mix_22 : decode cX3_mix 22 = .ok (.invokevirtual 122, 3) := by decide +kernel
theorem dX3_mix_25 : decode cX3_mix 25 = .ok (.aload_n 0, 1) := by decide +kernel
theorem dX3_mix_26 : decode cX3_mix 26 = .ok (.getfield 55, 3) := by decide +kernel
theorem dX3_mix_29 : decode cX3_mix 29 = .ok (.imul, 1) := by decide +kernel
theorem dX3_mix_30 : decode cX3_mix 30 = .ok (.iload_n 1, 1) := by decide +kernel
theorem dX3_mix_31 : decode cX3_mix 31 = .ok (.imul, 1) := by decide +kernel
theorem dX3_mix_32 : decode cX3_mix 32 = .ok (.bipush 100, 2) := by decide +kernel
theorem dX3_mix_34 : decode cX3_mix 34 = .ok (.idiv, 1) := by decide +kernel
theorem dX3_mix_35 : decode cX3_mix 35 = .ok (.invokevirtual 97, 3) := by decide +kernel
theorem dX3_mix_38 : decode cX3_mix 38 = .ok (.return_, 1) := by decide +kernel
theorem dX3_heatRooms_0 : decode cX3_heatRooms 0 = .ok (.iconst 0, 1) := by decide +kernel
theorem dX3_heatRooms_1 : decode cX3_heatRooms 1 = .ok (.istore_n 1, 1) := by decide +kernel
theorem dX3_heatRooms_2 : decode cX3_heatRooms 2 = .ok (.iload_n 1, 1) := by decide +kernel
theorem dX3_heatRooms_3 : decode cX3_heatRooms 3 = .ok (.aload_n 0, 1) := by decide +kernel
theorem dX3_heatRooms_4 : decode cX3_heatRooms 4 = .ok (.getfield 64, 3) := by decide +kernel
theorem dX3_heatRooms_7 : decode cX3_heatRooms 7 = .ok (.if_icmp .ge 73, 3) := by decide +kernel
theorem dX3_heatRooms_10 : decode cX3_heatRooms 10 = .ok (.iload_n 1, 1) := by decide +kernel
theorem dX3_heatRooms_11 : decode cX3_heatRooms 11 = .ok (.bipush 6, 2) := by decide +kernel
theorem dX3_heatRooms_13 : decode cX3_heatRooms 13 = .ok (.if_icmp .ge 67, 3) := by decide +kernel
theorem dX3_heatRooms_16 : decode cX3_heatRooms 16 = .ok (.aload_n 0, 1) := by decide +kernel
theorem dX3_heatRooms_17 : decode cX3_heatRooms 17 = .ok (.iconst 2, 1) := by decide +kernel
theorem dX3_heatRooms_18 : decode cX3_heatRooms 18 = .ok (.iload_n 1, 1) := by decide +kernel
theorem dX3_heatRooms_19 : decode cX3_heatRooms 19 = .ok (.iadd, 1) := by decide +kernel
theorem dX3_heatRooms_20 : decode cX3_heatRooms 20 = .ok (.invokevirtual 112, 3) := by decide +kernel
theorem dX3_heatRooms_23 : decode cX3_heatRooms 23 = .ok (.istore_n 2, 1) := by decide +kernel
theorem dX3_heatRooms_24 : decode cX3_heatRooms 24 = .ok (.aload_n 0, 1) := by decide +kernel
theorem dX3_heatRooms_25 : decode cX3_heatRooms 25 = .ok (.iconst 1, 1) := by decide +kernel
theorem dX3_heatRooms_26 : decode cX3_heatRooms 26 = .ok (.invokevirtual 112, 3) := by decide +kernel
theorem dX3_heatRooms_29 : decode cX3_heatRooms 29 = .ok (.iload_n 2, 1) := by decide +kernel
theorem dX3_heatRooms_30 : decode cX3_heatRooms 30 = .ok (.isub, 1) := by decide +kernel
theorem dX3_heatRooms_31 : decode cX3_heatRooms 31 = .ok (.istore_n 3, 1) := by decide +kernel
theorem dX3_heatRooms_32 : decode cX3_heatRooms 32 = .ok (.iload_n 2, 1) := by decide +kernel
theorem dX3_heatRooms_33 : decode cX3_heatRooms 33 = .ok (.aload_n 0, 1) := by decide +kernel
theorem dX3_heatRooms_34 : decode cX3_heatRooms 34 = .ok (.getfield 23, 3) := by decide +kernel
theorem dX3_heatRooms_37 : decode cX3_heatRooms 37 = .ok (.iload_n 1, 1) := by decide +kernel
theorem dX3_heatRooms_38 : decode cX3_heatRooms 38 = .ok (.aaload, 1) := by decide +kernel
theorem dX3_heatRooms_39 : decode cX3_heatRooms 39 = .ok (.getfield 116, 3) := by decide +kernel
theorem dX3_heatRooms_42 : decode cX3_heatRooms 42 = .ok (.if_icmp .ge 32, 3) := by decide +kernel
theorem dX3_heatRooms_45 : decode cX3_heatRooms 45 = .ok (.iload_n 3, 1) := by decide +kernel
theorem dX3_heatRooms_46 : decode cX3_heatRooms 46 = .ok (.ifCond .le 28, 3) := by decide +kernel
theorem dX3_heatRooms_49 : decode cX3_heatRooms 49 = .ok (.aload_n 0, 1) := by decide +kernel
theorem dX3_heatRooms_50 : decode cX3_heatRooms 50 = .ok (.iconst 1, 1) := by decide +kernel
theorem dX3_heatRooms_51 : decode cX3_heatRooms 51 = .ok (.iconst 2, 1) := by decide +kernel
theorem dX3_heatRooms_52 : decode cX3_heatRooms 52 = .ok (.iload_n 1, 1) := by decide +kernel
theorem dX3_heatRooms_53 : decode cX3_heatRooms 53 = .ok (.iadd, 1) := by decide +kernel
theorem dX3_heatRooms_54 : decode cX3_heatRooms 54 = .ok (.iconst 1, 1) := by decide +kernel
theorem dX3_heatRooms_55 : decode cX3_heatRooms 55 = .ok (.aload_n 0, 1) := by decide +kernel
theorem dX3_heatRooms_56 : decode cX3_heatRooms 56 = .ok (.getfield 23, 3) := by decide +kernel
theorem dX3_heatRooms_59 : decode cX3_heatRooms 59 = .ok (.iload_n 1, 1) := by decide +kernel
theorem dX3_heatRooms_60 : decode cX3_heatRooms 60 = .ok (.aaload, 1) := by decide +kernel
theorem dX3_heatRooms_61 : decode cX3_heatRooms 61 = .ok (.getfield 169, 3) := by decide +kernel
theorem dX3_heatRooms_64 : decode cX3_heatRooms 64 = .ok (.iload_n 3, 1) := by decide +kernel
theorem dX3_heatRooms_65 : decode cX3_heatRooms 65 = .ok (.imul, 1) := by decide +kernel
theorem dX3_heatRooms_66 : decode cX3_heatRooms 66 = .ok (.iconst 4, 1) := by decide +kernel
theorem dX3_heatRooms_67 : decode cX3_heatRooms 67 = .ok (.idiv, 1) := by decide +kernel
theorem dX3_heatRooms_68 : decode cX3_heatRooms 68 = .ok (.invokestatic 163, 3) := by decide +kernel
theorem dX3_heatRooms_71 : decode cX3_heatRooms 71 = .ok (.invokevirtual 97, 3) := by decide +kernel
theorem dX3_heatRooms_74 : decode cX3_heatRooms 74 = .ok (.iinc 1 1, 3) := by decide +kernel
theorem dX3_heatRooms_77 : decode cX3_heatRooms 77 = .ok (.goto (-75), 3) := by decide +kernel
theorem dX3_heatRooms_80 : decode cX3_heatRooms 80 = .ok (.return_, 1) := by decide +kernel
theorem dX3_leakRooms_0 : decode cX3_leakRooms 0 = .ok (.iconst 0, 1) := by decide +kernel
theorem dX3_leakRooms_1 : decode cX3_leakRooms 1 = .ok (.istore_n 1, 1) := by decide +kernel
theorem dX3_leakRooms_2 : decode cX3_leakRooms 2 = .ok (.iload_n 1, 1) := by decide +kernel
theorem dX3_leakRooms_3 : decode cX3_leakRooms 3 = .ok (.aload_n 0, 1) := by decide +kernel
theorem dX3_leakRooms_4 : decode cX3_leakRooms 4 = .ok (.getfield 64, 3) := by decide +kernel
theorem dX3_leakRooms_7 : decode cX3_leakRooms 7 = .ok (.if_icmp .ge 92, 3) := by decide +kernel
theorem dX3_leakRooms_10 : decode cX3_leakRooms 10 = .ok (.iload_n 1, 1) := by decide +kernel
theorem dX3_leakRooms_11 : decode cX3_leakRooms 11 = .ok (.bipush 6, 2) := by decide +kernel
theorem dX3_leakRooms_13 : decode cX3_leakRooms 13 = .ok (.if_icmp .ge 86, 3) := by decide +kernel
theorem dX3_leakRooms_16 : decode cX3_leakRooms 16 = .ok (.aload_n 0, 1) := by decide +kernel
theorem dX3_leakRooms_17 : decode cX3_leakRooms 17 = .ok (.getfield 23, 3) := by decide +kernel
theorem dX3_leakRooms_20 : decode cX3_leakRooms 20 = .ok (.iload_n 1, 1) := by decide +kernel
theorem dX3_leakRooms_21 : decode cX3_leakRooms 21 = .ok (.aaload, 1) := by decide +kernel
theorem dX3_leakRooms_22 : decode cX3_leakRooms 22 = .ok (.getfield 90, 3) := by decide +kernel
theorem dX3_leakRooms_25 : decode cX3_leakRooms 25 = .ok (.ifCond .eq 17, 3) := by decide +kernel
theorem dX3_leakRooms_28 : decode cX3_leakRooms 28 = .ok (.iconst 3, 1) := by decide +kernel
theorem dX3_leakRooms_29 : decode cX3_leakRooms 29 = .ok (.aload_n 0, 1) := by decide +kernel
theorem dX3_leakRooms_30 : decode cX3_leakRooms 30 = .ok (.getfield 23, 3) := by decide +kernel
theorem dX3_leakRooms_33 : decode cX3_leakRooms 33 = .ok (.iload_n 1, 1) := by decide +kernel
theorem dX3_leakRooms_34 : decode cX3_leakRooms 34 = .ok (.aaload, 1) := by decide +kernel
theorem dX3_leakRooms_35 : decode cX3_leakRooms 35 = .ok (.getfield 172, 3) := by decide +kernel
theorem dX3_leakRooms_38 : decode cX3_leakRooms 38 = .ok (.imul, 1) := by decide +kernel
theorem dX3_leakRooms_39 : decode cX3_leakRooms 39 = .ok (.goto 12, 3) := by decide +kernel
theorem dX3_leakRooms_42 : decode cX3_leakRooms 42 = .ok (.aload_n 0, 1) := by decide +kernel
theorem dX3_leakRooms_43 : decode cX3_leakRooms 43 = .ok (.getfield 23, 3) := by decide +kernel
theorem dX3_leakRooms_46 : decode cX3_leakRooms 46 = .ok (.iload_n 1, 1) := by decide +kernel
theorem dX3_leakRooms_47 : decode cX3_leakRooms 47 = .ok (.aaload, 1) := by decide +kernel
theorem dX3_leakRooms_48 : decode cX3_leakRooms 48 = .ok (.getfield 172, 3) := by decide +kernel
theorem dX3_leakRooms_51 : decode cX3_leakRooms 51 = .ok (.istore_n 2, 1) := by decide +kernel
theorem dX3_leakRooms_52 : decode cX3_leakRooms 52 = .ok (.iload_n 2, 1) := by decide +kernel
theorem dX3_leakRooms_53 : decode cX3_leakRooms 53 = .ok (.aload_n 0, 1) := by decide +kernel
theorem dX3_leakRooms_54 : decode cX3_leakRooms 54 = .ok (.iconst 2, 1) := by decide +kernel
theorem dX3_leakRooms_55 : decode cX3_leakRooms 55 = .ok (.iload_n 1, 1) := by decide +kernel
theorem dX3_leakRooms_56 : decode cX3_leakRooms 56 = .ok (.iadd, 1) := by decide +kernel
theorem dX3_leakRooms_57 : decode cX3_leakRooms 57 = .ok (.invokevirtual 112, 3) := by decide +kernel
theorem dX3_leakRooms_60 : decode cX3_leakRooms 60 = .ok (.aload_n 0, 1) := by decide +kernel
theorem dX3_leakRooms_61 : decode cX3_leakRooms 61 = .ok (.getfield 42, 3) := by decide +kernel
theorem dX3_leakRooms_64 : decode cX3_leakRooms 64 = .ok (.isub, 1) := by decide +kernel
theorem dX3_leakRooms_65 : decode cX3_leakRooms 65 = .ok (.imul, 1) := by decide +kernel
theorem dX3_leakRooms_66 : decode cX3_leakRooms 66 = .ok (.bipush 8, 2) := by decide +kernel
theorem dX3_leakRooms_68 : decode cX3_leakRooms 68 = .ok (.invokestatic 100, 3) := by decide +kernel
theorem dX3_leakRooms_71 : decode cX3_leakRooms 71 = .ok (.istore_n 3, 1) := by decide +kernel
theorem dX3_leakRooms_72 : decode cX3_leakRooms 72 = .ok (.aload_n 0, 1) := by decide +kernel
theorem dX3_leakRooms_73 : decode cX3_leakRooms 73 = .ok (.iconst 2, 1) := by decide +kernel
theorem dX3_leakRooms_74 : decode cX3_leakRooms 74 = .ok (.iload_n 1, 1) := by decide +kernel
theorem dX3_leakRooms_75 : decode cX3_leakRooms 75 = .ok (.iadd, 1) := by decide +kernel
theorem dX3_leakRooms_76 : decode cX3_leakRooms 76 = .ok (.bipush 8, 2) := by decide +kernel
theorem dX3_leakRooms_78 : decode cX3_leakRooms 78 = .ok (.iload_n 3, 1) := by decide +kernel
theorem dX3_leakRooms_79 : decode cX3_leakRooms 79 = .ok (.invokevirtual 97, 3) := by decide +kernel
theorem dX3_leakRooms_82 : decode cX3_leakRooms 82 = .ok (.aload_n 0, 1) := by decide +kernel
theorem dX3_leakRooms_83 : decode cX3_leakRooms 83 = .ok (.bipush 8, 2) := by decide +kernel
theorem dX3_leakRooms_85 : decode cX3_leakRooms 85 = .ok (.iconst 2, 1) := by decide +kernel
theorem dX3_leakRooms_86 : decode cX3_leakRooms 86 = .ok (.iload_n 1, 1) := by decide +kernel
theorem dX3_leakRooms_87 : decode cX3_leakRooms 87 = .ok (.iadd, 1) := by decide +kernel
theorem dX3_leakRooms_88 : decode cX3_leakRooms 88 = .ok (.iload_n 3, 1) := by decide +kernel
theorem dX3_leakRooms_89 : decode cX3_leakRooms 89 = .ok (.ineg, 1) := by decide +kernel
theorem dX3_leakRooms_90 : decode cX3_leakRooms 90 = .ok (.invokevirtual 97, 3) := by decide +kernel
theorem dX3_leakRooms_93 : decode cX3_leakRooms 93 = .ok (.iinc 1 1, 3) := by decide +kernel
theorem dX3_leakRooms_96 : decode cX3_leakRooms 96 = .ok (.goto (-94), 3) := by decide +kernel
theorem dX3_leakRooms_99 : decode cX3_leakRooms 99 = .ok (.return_, 1) := by decide +kernel
theorem dX3_judgeRooms_0 : decode cX3_judgeRooms 0 = .ok (.iconst 0, 1) := by decide +kernel
theorem dX3_judgeRooms_1 : decode cX3_judgeRooms 1 = .ok (.istore_n 1, 1) := by decide +kernel
theorem dX3_judgeRooms_2 : decode cX3_judgeRooms 2 = .ok (.iload_n 1, 1) := by decide +kernel
theorem dX3_judgeRooms_3 : decode cX3_judgeRooms 3 = .ok (.aload_n 0, 1) := by decide +kernel
theorem dX3_judgeRooms_4 : decode cX3_judgeRooms 4 = .ok (.getfield 64, 3) := by decide +kernel
theorem dX3_judgeRooms_7 : decode cX3_judgeRooms 7 = .ok (.if_icmp .ge 31, 3) := by decide +kernel
theorem dX3_judgeRooms_10 : decode cX3_judgeRooms 10 = .ok (.iload_n 1, 1) := by decide +kernel
theorem dX3_judgeRooms_11 : decode cX3_judgeRooms 11 = .ok (.bipush 6, 2) := by decide +kernel
theorem dX3_judgeRooms_13 : decode cX3_judgeRooms 13 = .ok (.if_icmp .ge 25, 3) := by decide +kernel
theorem dX3_judgeRooms_16 : decode cX3_judgeRooms 16 = .ok (.aload_n 0, 1) := by decide +kernel
theorem dX3_judgeRooms_17 : decode cX3_judgeRooms 17 = .ok (.getfield 23, 3) := by decide +kernel
theorem dX3_judgeRooms_20 : decode cX3_judgeRooms 20 = .ok (.iload_n 1, 1) := by decide +kernel
theorem dX3_judgeRooms_21 : decode cX3_judgeRooms 21 = .ok (.aaload, 1) := by decide +kernel
theorem dX3_judgeRooms_22 : decode cX3_judgeRooms 22 = .ok (.aload_n 0, 1) := by decide +kernel
theorem dX3_judgeRooms_23 : decode cX3_judgeRooms 23 = .ok (.iconst 2, 1) := by decide +kernel
theorem dX3_judgeRooms_24 : decode cX3_judgeRooms 24 = .ok (.iload_n 1, 1) := by decide +kernel
theorem dX3_judgeRooms_25 : decode cX3_judgeRooms 25 = .ok (.iadd, 1) := by decide +kernel
theorem dX3_judgeRooms_26 : decode cX3_judgeRooms 26 = .ok (.invokevirtual 112, 3) := by decide +kernel
theorem dX3_judgeRooms_29 : decode cX3_judgeRooms 29 = .ok (.invokevirtual 175, 3) := by decide +kernel
theorem dX3_judgeRooms_32 : decode cX3_judgeRooms 32 = .ok (.iinc 1 1, 3) := by decide +kernel
theorem dX3_judgeRooms_35 : decode cX3_judgeRooms 35 = .ok (.goto (-33), 3) := by decide +kernel
theorem dX3_judgeRooms_38 : decode cX3_judgeRooms 38 = .ok (.return_, 1) := by decide +kernel
theorem dX3_move_0 : decode cX3_move 0 = .ok (.iload_n 3, 1) := by decide +kernel
theorem dX3_move_1 : decode cX3_move 1 = .ok (.ifCond .gt 4, 3) := by decide +kernel
theorem dX3_move_4 : decode cX3_move 4 = .ok (.return_, 1) := by decide +kernel
theorem dX3_move_5 : decode cX3_move 5 = .ok (.aload_n 0, 1) := by decide +kernel
theorem dX3_move_6 : decode cX3_move 6 = .ok (.iload_n 1, 1) := by decide +kernel
theorem dX3_move_7 : decode cX3_move 7 = .ok (.iload_n 3, 1) := by decide +kernel
theorem dX3_move_8 : decode cX3_move 8 = .ok (.ineg, 1) := by decide +kernel
theorem dX3_move_9 : decode cX3_move 9 = .ok (.invokevirtual 179, 3) := by decide +kernel
theorem dX3_move_12 : decode cX3_move 12 = .ok (.aload_n 0, 1) := by decide +kernel
theorem dX3_move_13 : decode cX3_move 13 = .ok (.iload_n 2, 1) := by decide +kernel
theorem dX3_move_14 : decode cX3_move 14 = .ok (.iload_n 3, 1) := by decide +kernel
theorem dX3_move_15 : decode cX3_move 15 = .ok (.invokevirtual 179, 3) := by decide +kernel
theorem dX3_move_18 : decode cX3_move 18 = .ok (.aload_n 0, 1) := by decide +kernel
theorem dX3_move_19 : decode cX3_move 19 = .ok (.getfield 30, 3) := by decide +kernel
theorem dX3_move_22 : decode cX3_move 22 = .ok (.iload_n 1, 1) := by decide +kernel
theorem dX3_move_23 : decode cX3_move 23 = .ok (.iload_n 2, 1) := by decide +kernel
theorem dX3_move_24 : decode cX3_move 24 = .ok (.iload_n 3, 1) := by decide +kernel
theorem dX3_move_25 : decode cX3_move 25 = .ok (.invokevirtual 183, 3) := by decide +kernel
theorem dX3_move_28 : decode cX3_move 28 = .ok (.return_, 1) := by decide +kernel
theorem dX3_addHeat_0 : decode cX3_addHeat 0 = .ok (.iload_n 1, 1) := by decide +kernel
theorem dX3_addHeat_1 : decode cX3_addHeat 1 = .ok (.ifCond .lt 19, 3) := by decide +kernel
theorem dX3_addHeat_4 : decode cX3_addHeat 4 = .ok (.iload_n 1, 1) := by decide +kernel
theorem dX3_addHeat_5 : decode cX3_addHeat 5 = .ok (.bipush 8, 2) := by decide +kernel
theorem dX3_addHeat_7 : decode cX3_addHeat 7 = .ok (.if_icmp .ge 13, 3) := by decide +kernel
theorem dX3_addHeat_10 : decode cX3_addHeat 10 = .ok (.aload_n 0, 1) := by decide +kernel
theorem dX3_addHeat_11 : decode cX3_addHeat 11 = .ok (.getfield 15, 3) := by decide +kernel
theorem dX3_addHeat_14 : decode cX3_addHeat 14 = .ok (.iload_n 1, 1) := by decide +kernel
theorem dX3_addHeat_15 : decode cX3_addHeat 15 = .ok (.dup2, 1) := by decide +kernel
theorem dX3_addHeat_16 : decode cX3_addHeat 16 = .ok (.iaload, 1) := by decide +kernel
theorem dX3_addHeat_17 : decode cX3_addHeat 17 = .ok (.iload_n 2, 1) := by decide +kernel
theorem dX3_addHeat_18 : decode cX3_addHeat 18 = .ok (.iadd, 1) := by decide +kernel
theorem dX3_addHeat_19 : decode cX3_addHeat 19 = .ok (.iastore, 1) := by decide +kernel
theorem dX3_addHeat_20 : decode cX3_addHeat 20 = .ok (.return_, 1) := by decide +kernel
theorem dX4_init_0 : decode cX4_init 0 = .ok (.aload_n 0, 1) := by decide +kernel
theorem dX4_init_1 : decode cX4_init 1 = .ok (.invokespecial 3, 3) := by decide +kernel
theorem dX4_init_4 : decode cX4_init 4 = .ok (.aload_n 0, 1) := by decide +kernel
theorem dX4_init_5 : decode cX4_init 5 = .ok (.aload_n 1, 1) := by decide +kernel
theorem dX4_init_6 : decode cX4_init 6 = .ok (.putfield 9, 3) := by decide +kernel
theorem dX4_init_9 : decode cX4_init 9 = .ok (.aload_n 0, 1) := by decide +kernel
theorem dX4_init_10 : decode cX4_init 10 = .ok (.iload_n 2, 1) := by decide +kernel
theorem dX4_init_11 : decode cX4_init 11 = .ok (.putfield 15, 3) := by decide +kernel
theorem dX4_init_14 : decode cX4_init 14 = .ok (.return_, 1) := by decide +kernel
theorem dX4_readInto_0 : decode cX4_readInto 0 = .ok (.aload_n 1, 1) := by decide +kernel
theorem dX4_readInto_1 : decode cX4_readInto 1 = .ok (.invokevirtual 19, 3) := by decide +kernel
theorem dX4_readInto_4 : decode cX4_readInto 4 = .ok (.aload_n 0, 1) := by decide +kernel
theorem dX4_readInto_5 : decode cX4_readInto 5 = .ok (.aload_n 1, 1) := by decide +kernel
theorem dX4_readInto_6 : decode cX4_readInto 6 = .ok (.invokevirtual 24, 3) := by decide +kernel
theorem dX4_readInto_9 : decode cX4_readInto 9 = .ok (.ifCond .ne 5, 3) := by decide +kernel
theorem dX4_readInto_12 : decode cX4_readInto 12 = .ok (.iconst 0, 1) := by decide +kernel
theorem dX4_readInto_13 : decode cX4_readInto 13 = .ok (.ireturn, 1) := by decide +kernel
theorem dX4_readInto_14 : decode cX4_readInto 14 = .ok (.iconst 0, 1) := by decide +kernel
theorem dX4_readInto_15 : decode cX4_readInto 15 = .ok (.istore_n 2, 1) := by decide +kernel
theorem dX4_readInto_16 : decode cX4_readInto 16 = .ok (.iload_n 2, 1) := by decide +kernel
theorem dX4_readInto_17 : decode cX4_readInto 17 = .ok (.bipush 80, 2) := by decide +kernel
theorem dX4_readInto_19 : decode cX4_readInto 19 = .ok (.if_icmp .ge 30, 3) := by decide +kernel
theorem dX4_readInto_22 : decode cX4_readInto 22 = .ok (.aload_n 0, 1) := by decide +kernel
theorem dX4_readInto_23 : decode cX4_readInto 23 = .ok (.getfield 28, 3) := by decide +kernel
theorem dX4_readInto_26 : decode cX4_readInto 26 = .ok (.aload_n 0, 1) := by decide +kernel
theorem dX4_readInto_27 : decode cX4_readInto 27 = .ok (.getfield 15, 3) := by decide +kernel
theorem dX4_readInto_30 : decode cX4_readInto 30 = .ok (.if_icmp .ge 19, 3) := by decide +kernel
theorem dX4_readInto_33 : decode cX4_readInto 33 = .ok (.aload_n 0, 1) := by decide +kernel
theorem dX4_readInto_34 : decode cX4_readInto 34 = .ok (.aload_n 1, 1) := by decide +kernel
theorem dX4_readInto_35 : decode cX4_readInto 35 = .ok (.invokevirtual 31, 3) := by decide +kernel
theorem dX4_readInto_38 : decode cX4_readInto 38 = .ok (.ifCond .ne 5, 3) := by decide +kernel
theorem dX4_readInto_41 : decode cX4_readInto 41 = .ok (.iconst 0, 1) := by decide +kernel
theorem dX4_readInto_42 : decode cX4_readInto 42 = .ok (.ireturn, 1) := by decide +kernel
theorem dX4_readInto_43 : decode cX4_readInto 43 = .ok (.iinc 2 1, 3) := by decide +kernel
theorem dX4_readInto_46 : decode cX4_readInto 46 = .ok (.goto (-30), 3) := by decide +kernel
theorem dX4_readInto_49 : decode cX4_readInto 49 = .ok (.aload_n 0, 1) := by decide +kernel
theorem dX4_readInto_50 : decode cX4_readInto 50 = .ok (.getfield 28, 3) := by decide +kernel
theorem dX4_readInto_53 : decode cX4_readInto 53 = .ok (.aload_n 0, 1) := by decide +kernel
theorem dX4_readInto_54 : decode cX4_readInto 54 = .ok (.getfield 15, 3) := by decide +kernel
theorem dX4_readInto_57 : decode cX4_readInto 57 = .ok (.if_icmp .ne 7, 3) := by decide +kernel
theorem dX4_readInto_60 : decode cX4_readInto 60 = .ok (.iconst 1, 1) := by decide +kernel
theorem dX4_readInto_61 : decode cX4_readInto 61 = .ok (.goto 4, 3) := by decide +kernel
theorem dX4_readInto_64 : decode cX4_readInto 64 = .ok (.iconst 0, 1) := by decide +kernel
theorem dX4_readInto_65 : decode cX4_readInto 65 = .ok (.ireturn, 1) := by decide +kernel
theorem dX4_readHead_0 : decode cX4_readHead 0 = .ok (.aload_n 0, 1) := by decide +kernel
theorem dX4_readHead_1 : decode cX4_readHead 1 = .ok (.invokevirtual 34, 3) := by decide +kernel
theorem dX4_readHead_4 : decode cX4_readHead 4 = .ok (.bipush 77, 2) := by decide +kernel
theorem dX4_readHead_6 : decode cX4_readHead 6 = .ok (.if_icmp .eq 5, 3) := by decide +kernel
theorem dX4_readHead_9 : decode cX4_readHead 9 = .ok (.iconst 0, 1) := by decide +kernel
theorem dX4_readHead_10 : decode cX4_readHead 10 = .ok (.ireturn, 1) := by decide +kernel
theorem dX4_readHead_11 : decode cX4_readHead 11 = .ok (.aload_n 0, 1) := by decide +kernel
theorem dX4_readHead_12 : decode cX4_readHead 12 = .ok (.dup, 1) := by decide +kernel
theorem dX4_readHead_13 : decode cX4_readHead 13 = .ok (.getfield 28, 3) := by decide +kernel
theorem dX4_readHead_16 : decode cX4_readHead 16 = .ok (.iconst 1, 1) := by decide +kernel
theorem dX4_readHead_17 : decode cX4_readHead 17 = .ok (.iadd, 1) := by decide +kernel
theorem dX4_readHead_18 : decode cX4_readHead 18 = .ok (.putfield 28, 3) := by decide +kernel
theorem dX4_readHead_21 : decode cX4_readHead 21 = .ok (.aload_n 0, 1) := by decide +kernel
theorem dX4_readHead_22 : decode cX4_readHead 22 = .ok (.aload_n 1, 1) := by decide +kernel
theorem dX4_readHead_23 : decode cX4_readHead 23 = .ok (.iconst 0, 1) := by decide +kernel
theorem dX4_readHead_24 : decode cX4_readHead 24 = .ok (.iconst 3, 1) := by decide +kernel
theorem dX4_readHead_25 : decode cX4_readHead 25 = .ok (.invokevirtual 38, 3) := by decide +kernel
theorem dX4_readHead_28 : decode cX4_readHead 28 = .ok (.ifCond .eq 17, 3) := by decide +kernel
theorem dX4_readHead_31 : decode cX4_readHead 31 = .ok (.aload_n 0, 1) := by decide +kernel
theorem dX4_readHead_32 : decode cX4_readHead 32 = .ok (.aload_n 1, 1) := by decide +kernel
theorem dX4_readHead_33 : decode cX4_readHead 33 = .ok (.iconst 1, 1) := by decide +kernel
theorem dX4_readHead_34 : decode cX4_readHead 34 = .ok (.iconst 2, 1) := by decide +kernel
theorem dX4_readHead_35 : decode cX4_readHead 35 = .ok (.invokevirtual 38, 3) := by decide +kernel
theorem dX4_readHead_38 : decode cX4_readHead 38 = .ok (.ifCond .eq 7, 3) := by decide +kernel
theorem dX4_readHead_41 : decode cX4_readHead 41 = .ok (.iconst 1, 1) := by decide +kernel
theorem dX4_readHead_42 : decode cX4_readHead 42 = .ok (.goto 4, 3) := by decide +kernel
theorem dX4_readHead_45 : decode cX4_readHead 45 = .ok (.iconst 0, 1) := by decide +kernel
theorem dX4_readHead_46 : decode cX4_readHead 46 = .ok (.ireturn, 1) := by decide +kernel
theorem dX4_readPart_0 : decode cX4_readPart 0 = .ok (.aload_n 0, 1) := by decide +kernel
theorem dX4_readPart_1 : decode cX4_readPart 1 = .ok (.invokevirtual 34, 3) := by decide +kernel
theorem dX4_readPart_4 : decode cX4_readPart 4 = .ok (.istore_n 2, 1) := by decide +kernel
theorem dX4_readPart_5 : decode cX4_readPart 5 = .ok (.iload_n 2, 1) := by decide +kernel
theorem dX4_readPart_6 : decode cX4_readPart 6 = .ok (.bipush 114, 2) := by decide +kernel
theorem dX4_readPart_8 : decode cX4_readPart 8 = .ok (.if_icmp .ne 26, 3) := by decide +kernel
theorem dX4_readPart_11 : decode cX4_readPart 11 = .ok (.aload_n 1, 1) := by decide +kernel
theorem dX4_readPart_12 : decode cX4_readPart 12 = .ok (.invokevirtual 42, 3) := by decide +kernel
theorem dX4_readPart_15 : decode cX4_readPart 15 = .ok (.ifCond .ne 19, 3) := by decide +kernel
theorem dX4_readPart_18 : decode cX4_readPart 18 = .ok (.aload_n 0, 1) := by decide +kernel
theorem dX4_readPart_19 : decode cX4_readPart 19 = .ok (.dup, 1) := by decide +kernel
theorem dX4_readPart_20 : decode cX4_readPart 20 = .ok (.getfield 28, 3) := by decide +kernel
theorem dX4_readPart_23 : decode cX4_readPart 23 = .ok (.iconst 1, 1) := by decide +kernel
theorem dX4_readPart_24 : decode cX4_readPart 24 = .ok (.iadd, 1) := by decide +kernel
theorem dX4_readPart_25 : decode cX4_readPart 25 = .ok (.putfield 28, 3) := by decide +kernel
theorem dX4_readPart_28 : decode cX4_readPart 28 = .ok (.aload_n 0, 1) := by decide +kernel
theorem dX4_readPart_29 : decode cX4_readPart 29 = .ok (.aload_n 1, 1) := by decide +kernel
theorem dX4_readPart_30 : decode cX4_readPart 30 = .ok (.invokevirtual 46, 3) := by decide +kernel
theorem dX4_readPart_33 : decode cX4_readPart 33 = .ok (.ireturn, 1) := by decide +kernel
theorem dX4_readPart_34 : decode cX4_readPart 34 = .ok (.iload_n 2, 1) := by decide +kernel
theorem dX4_readPart_35 : decode cX4_readPart 35 = .ok (.bipush 111, 2) := by decide +kernel
theorem dX4_readPart_37 : decode cX4_readPart 37 = .ok (.if_icmp .ne 19, 3) := by decide +kernel
theorem dX4_readPart_40 : decode cX4_readPart 40 = .ok (.aload_n 0, 1) := by decide +kernel
theorem dX4_readPart_41 : decode cX4_readPart 41 = .ok (.dup, 1) := by decide +kernel
theorem dX4_readPart_42 : decode cX4_readPart 42 = .ok (.getfield 28, 3) := by decide +kernel
theorem dX4_readPart_45 : decode cX4_readPart 45 = .ok (.iconst 1, 1) := by decide +kernel
theorem dX4_readPart_46 : decode cX4_readPart 46 = .ok (.iadd, 1) := by decide +kernel
theorem dX4_readPart_47 : decode cX4_readPart 47 = .ok (.putfield 28, 3) := by decide +kernel
theorem dX4_readPart_50 : decode cX4_readPart 50 = .ok (.aload_n 0, 1) := by decide +kernel
theorem dX4_readPart_51 : decode cX4_readPart 51 = .ok (.aload_n 1, 1) := by decide +kernel
theorem dX4_readPart_52 : decode cX4_readPart 52 = .ok (.invokevirtual 49, 3) := by decide +kernel
theorem dX4_readPart_55 : decode cX4_readPart 55 = .ok (.ireturn, 1) := by decide +kernel
theorem dX4_readPart_56 : decode cX4_readPart 56 = .ok (.iload_n 2, 1) := by decide +kernel
theorem dX4_readPart_57 : decode cX4_readPart 57 = .ok (.bipush 115, 2) := by decide +kernel
theorem dX4_readPart_59 : decode cX4_readPart 59 = .ok (.if_icmp .ne 43, 3) := by decide +kernel
theorem dX4_readPart_62 : decode cX4_readPart 62 = .ok (.aload_n 0, 1) := by decide +kernel
theorem dX4_readPart_63 : decode cX4_readPart 63 = .ok (.dup, 1) := by decide +kernel
theorem dX4_readPart_64 : decode cX4_readPart 64 = .ok (.getfield 28, 3) := by decide +kernel
theorem dX4_readPart_67 : decode cX4_readPart 67 = .ok (.iconst 1, 1) := by decide +kernel
theorem dX4_readPart_68 : decode cX4_readPart 68 = .ok (.iadd, 1) := by decide +kernel
theorem dX4_readPart_69 : decode cX4_readPart 69 = .ok (.putfield 28, 3) := by decide +kernel
theorem dX4_readPart_72 : decode cX4_readPart 72 = .ok (.aload_n 0, 1) := by decide +kernel
theorem dX4_readPart_73 : decode cX4_readPart 73 = .ok (.iconst 1, 1) := by decide +kernel
theorem dX4_readPart_74 : decode cX4_readPart 74 = .ok (.iconst 2, 1) := by decide +kernel
theorem dX4_readPart_75 : decode cX4_readPart 75 = .ok (.bipush 8, 2) := by decide +kernel
theorem dX4_readPart_77 : decode cX4_readPart 77 = .ok (.invokevirtual 52, 3) := by decide +kernel
theorem dX4_readPart_80 : decode cX4_readPart 80 = .ok (.istore_n 3, 1) := by decide +kernel
theorem dX4_readPart_81 : decode cX4_readPart 81 = .ok (.iload_n 3, 1) := by decide +kernel
theorem dX4_readPart_82 : decode cX4_readPart 82 = .ok (.iconst (-1), 1) := by decide +kernel
theorem dX4_readPart_83 : decode cX4_readPart 83 = .ok (.if_icmp .eq 17, 3) := by decide +kernel
theorem dX4_readPart_86 : decode cX4_readPart 86 = .ok (.aload_n 0, 1) := by decide +kernel
theorem dX4_readPart_87 : decode cX4_readPart 87 = .ok (.aload_n 1, 1) := by decide +kernel
theorem dX4_readPart_88 : decode cX4_readPart 88 = .ok (.iload_n 3, 1) := by decide +kernel
theorem dX4_readPart_89 : decode cX4_readPart 89 = .ok (.iconst 2, 1) := by decide +kernel
theorem dX4_readPart_90 : decode cX4_readPart 90 = .ok (.invokevirtual 38, 3) := by decide +kernel
theorem dX4_readPart_93 : decode cX4_readPart 93 = .ok (.ifCond .eq 7, 3) := by decide +kernel
theorem dX4_readPart_96 : decode cX4_readPart 96 = .ok (.iconst 1, 1) := by decide +kernel
theorem dX4_readPart_97 : decode cX4_readPart 97 = .ok (.goto 4, 3) := by decide +kernel
theorem dX4_readPart_100 : decode cX4_readPart 100 = .ok (.iconst 0, 1) := by decide +kernel
theorem dX4_readPart_101 : decode cX4_readPart 101 = .ok (.ireturn, 1) := by decide +kernel
theorem dX4_readPart_102 : decode cX4_readPart 102 = .ok (.iconst 0, 1) := by decide +kernel
theorem dX4_readPart_103 : decode cX4_readPart 103 = .ok (.ireturn, 1) := by decide +kernel
theorem dX4_readSetting_0 : decode cX4_readSetting 0 = .ok (.aload_n 0, 1) := by decide +kernel
theorem dX4_readSetting_1 : decode cX4_readSetting 1 = .ok (.iload_n 3, 1) := by decide +kernel
theorem dX4_readSetting_2 : decode cX4_readSetting 2 = .ok (.iload_n 2, 1) := by decide +kernel
theorem dX4_readSetting_3 : decode cX4_readSetting 3 = .ok (.invokestatic 56, 3) := by decide +kernel
theorem dX4_readSetting_6 : decode cX4_readSetting 6 = .ok (.iload_n 2, 1) := by decide +kernel
theorem dX4_readSetting_7 : decode cX4_readSetting 7 = .ok (.invokestatic 60, 3) := by decide +kernel
theorem dX4_readSetting_10 : decode cX4_readSetting 10 = .ok (.invokevirtual 52, 3) := by decide +kernel
theorem dX4_readSetting_13 : decode cX4_readSetting 13 = .ok (.istore 4, 2) := by decide +kernel
theorem dX4_readSetting_15 : decode cX4_readSetting 15 = .ok (.iload 4, 2) := by decide +kernel
theorem dX4_readSetting_17 : decode cX4_readSetting 17 = .ok (.iconst (-1), 1) := by decide +kernel
theorem dX4_readSetting_18 : decode cX4_readSetting 18 = .ok (.if_icmp .ne 5, 3) := by decide +kernel
theorem dX4_readSetting_21 : decode cX4_readSetting 21 = .ok (.iconst 0, 1) := by decide +kernel
theorem dX4_readSetting_22 : decode cX4_readSetting 22 = .ok (.ireturn, 1) := by decide +kernel
theorem dX4_readSetting_23 : decode cX4_readSetting 23 = .ok (.aload_n 1, 1) := by decide +kernel
theorem dX4_readSetting_24 : decode cX4_readSetting 24 = .ok (.iload_n 2, 1) := by decide +kernel
theorem dX4_readSetting_25 : decode cX4_readSetting 25 = .ok (.iload 4, 2) := by decide +kernel
theorem dX4_readSetting_27 : decode cX4_readSetting 27 = .ok (.invokevirtual 63, 3) := by decide +kernel
theorem dX4_readSetting_30 : decode cX4_readSetting 30 = .ok (.iconst 1, 1) := by decide +kernel
theorem dX4_readSetting_31 : decode cX4_readSetting 31 = .ok (.ireturn, 1) := by decide +kernel
theorem dX4_readRoom_0 : decode cX4_readRoom 0 = .ok (.aload_n 0, 1) := by decide +kernel
theorem dX4_readRoom_1 : decode cX4_readRoom 1 = .ok (.iconst 1, 1) := by decide +kernel
theorem dX4_readRoom_2 : decode cX4_readRoom 2 = .ok (.iconst 1, 1) := by decide +kernel
theorem dX4_readRoom_3 : decode cX4_readRoom 3 = .ok (.bipush 9, 2) := by decide +kernel
theorem dX4_readRoom_5 : decode cX4_readRoom 5 = .ok (.invokevirtual 52, 3) := by decide +kernel
theorem dX4_readRoom_8 : decode cX4_readRoom 8 = .ok (.istore_n 2, 1) := by decide +kernel
theorem dX4_readRoom_9 : decode cX4_readRoom 9 = .ok (.iload_n 2, 1) := by decide +kernel
theorem dX4_readRoom_10 : decode cX4_readRoom 10 = .ok (.iconst (-1), 1) := by decide +kernel
theorem dX4_readRoom_11 : decode cX4_readRoom 11 = .ok (.if_icmp .ne 7, 3) := by decide +kernel
theorem dX4_readRoom_14 : decode cX4_readRoom 14 = .ok (.iconst (-1), 1) := by decide +kernel
theorem dX4_readRoom_15 : decode cX4_readRoom 15 = .ok (.goto 12, 3) := by decide +kernel
theorem dX4_readRoom_18 : decode cX4_readRoom 18 = .ok (.aload_n 0, 1) := by decide +kernel
theorem dX4_readRoom_19 : decode cX4_readRoom 19 = .ok (.iconst 2, 1) := by decide +kernel
theorem dX4_readRoom_20 : decode cX4_readRoom 20 = .ok (.bipush 10, 2) := by decide +kernel
theorem dX4_readRoom_22 : decode cX4_readRoom 22 = .ok (.bipush 25, 2) := by decide +kernel
theorem dX4_readRoom_24 : decode cX4_readRoom 24 = .ok (.invokevirtual 52, 3) := by decide +kernel
theorem dX4_readRoom_27 : decode cX4_readRoom 27 = .ok (.istore_n 3, 1) := by decide +kernel
theorem dX4_readRoom_28 : decode cX4_readRoom 28 = .ok (.iload_n 3, 1) := by decide +kernel
theorem dX4_readRoom_29 : decode cX4_readRoom 29 = .ok (.iconst (-1), 1) := by decide +kernel
theorem dX4_readRoom_30 : decode cX4_readRoom 30 = .ok (.if_icmp .ne 7, 3) := by decide +kernel
theorem dX4_readRoom_33 : decode cX4_readRoom 33 = .ok (.iconst (-1), 1) := by decide +kernel
theorem dX4_readRoom_34 : decode cX4_readRoom 34 = .ok (.goto 11, 3) := by decide +kernel
theorem dX4_readRoom_37 : decode cX4_readRoom 37 = .ok (.aload_n 0, 1) := by decide +kernel
theorem dX4_readRoom_38 : decode cX4_readRoom 38 = .ok (.iconst 1, 1) := by decide +kernel
theorem dX4_readRoom_39 : decode cX4_readRoom 39 = .ok (.iconst 1, 1) := by decide +kernel
theorem dX4_readRoom_40 : decode cX4_readRoom 40 = .ok (.bipush 9, 2) := by decide +kernel
theorem dX4_readRoom_42 : decode cX4_readRoom 42 = .ok (.invokevirtual 52, 3) := by decide +kernel
theorem dX4_readRoom_45 : decode cX4_readRoom 45 = .ok (.istore 4, 2) := by decide +kernel
theorem dX4_readRoom_47 : decode cX4_readRoom 47 = .ok (.iload 4, 2) := by decide +kernel
theorem dX4_readRoom_49 : decode cX4_readRoom 49 = .ok (.iconst (-1), 1) := by decide +kernel
theorem dX4_readRoom_50 : decode cX4_readRoom 50 = .ok (.if_icmp .ne 7, 3) := by decide +kernel
theorem dX4_readRoom_53 : decode cX4_readRoom 53 = .ok (.iconst (-1), 1) := by decide +kernel
theorem dX4_readRoom_54 : decode cX4_readRoom 54 = .ok (.goto 11, 3) := by decide +kernel
theorem dX4_readRoom_57 : decode cX4_readRoom 57 = .ok (.aload_n 0, 1) := by decide +kernel
theorem dX4_readRoom_58 : decode cX4_readRoom 58 = .ok (.iconst 1, 1) := by decide +kernel
theorem dX4_readRoom_59 : decode cX4_readRoom 59 = .ok (.iconst 0, 1) := by decide +kernel
theorem dX4_readRoom_60 : decode cX4_readRoom 60 = .ok (.bipush 9, 2) := by decide +kernel
theorem dX4_readRoom_62 : decode cX4_readRoom 62 = .ok (.invokevirtual 52, 3) := by decide +kernel
theorem dX4_readRoom_65 : decode cX4_readRoom 65 = .ok (.istore 5, 2) := by decide +kernel
theorem dX4_readRoom_67 : decode cX4_readRoom 67 = .ok (.iload 5, 2) := by decide +kernel
theorem dX4_readRoom_69 : decode cX4_readRoom 69 = .ok (.iconst (-1), 1) := by decide +kernel
theorem dX4_readRoom_70 : decode cX4_readRoom 70 = .ok (.if_icmp .ne 5, 3) := by decide +kernel
theorem dX4_readRoom_73 : decode cX4_readRoom 73 = .ok (.iconst 0, 1) := by decide +kernel
theorem dX4_readRoom_74 : decode cX4_readRoom 74 = .ok (.ireturn, 1) := by decide +kernel
theorem dX4_readRoom_75 : decode cX4_readRoom 75 = .ok (.aload_n 1, 1) := by decide +kernel
theorem dX4_readRoom_76 : decode cX4_readRoom 76 = .ok (.iload_n 2, 1) := by decide +kernel
theorem dX4_readRoom_77 : decode cX4_readRoom 77 = .ok (.iload_n 3, 1) := by decide +kernel
theorem dX4_readRoom_78 : decode cX4_readRoom 78 = .ok (.iload 4, 2) := by decide +kernel
theorem dX4_readRoom_80 : decode cX4_readRoom 80 = .ok (.iload 5, 2) := by decide +kernel
theorem dX4_readRoom_82 : decode cX4_readRoom 82 = .ok (.invokevirtual 67, 3) := by decide +kernel
theorem dX4_readRoom_85 : decode cX4_readRoom 85 = .ok (.iconst 1, 1) := by decide +kernel
theorem dX4_readRoom_86 : decode cX4_readRoom 86 = .ok (.ireturn, 1) := by decide +kernel
end
section
theorem dX4_readOutside_0 : decode cX4_readOutside 0 = .ok (.aload_n 0, 1) := by decide +kernel
theorem dX4_readOutside_1 : decode cX4_readOutside 1 = .ok (.invokevirtual 34, 3) := by decide +kernel
theorem dX4_readOutside_4 : decode cX4_readOutside 4 = .ok (.istore_n 2, 1) := by decide +kernel
theorem dX4_readOutside_5 : decode cX4_readOutside 5 = .ok (.iload_n 2, 1) := by decide +kernel
theorem dX4_readOutside_6 : decode cX4_readOutside 6 = .ok (.bipush 43, 2) := by decide +kernel
theorem dX4_readOutside_8 : decode cX4_readOutside 8 = .ok (.if_icmp .eq 11, 3) := by decide +kernel
theorem dX4_readOutside_11 : decode cX4_readOutside 11 = .ok (.iload_n 2, 1) := by decide +kernel
theorem dX4_readOutside_12 : decode cX4_readOutside 12 = .ok (.bipush 45, 2) := by decide +kernel
theorem dX4_readOutside_14 : decode cX4_readOutside 14 = .ok (.if_icmp .eq 5, 3) := by decide +kernel
theorem dX4_readOutside_17 : decode cX4_readOutside 17 = .ok (.iconst 0, 1) := by decide +kernel
theorem dX4_readOutside_18 : decode cX4_readOutside 18 = .ok (.ireturn, 1) := by decide +kernel
theorem dX4_readOutside_19 : decode cX4_readOutside 19 = .ok (.aload_n 0, 1) := by decide +kernel
theorem dX4_readOutside_20 : decode cX4_readOutside 20 = .ok (.dup, 1) := by decide +kernel
theorem dX4_readOutside_21 : decode cX4_readOutside 21 = .ok (.getfield 28, 3) := by decide +kernel
theorem dX4_readOutside_24 : decode cX4_readOutside 24 = .ok (.iconst 1, 1) := by decide +kernel
theorem dX4_readOutside_25 : decode cX4_readOutside 25 = .ok (.iadd, 1) := by decide +kernel
theorem dX4_readOutside_26 : decode cX4_readOutside 26 = .ok (.putfield 28, 3) := by decide +kernel
theorem dX4_readOutside_29 : decode cX4_readOutside 29 = .ok (.iload_n 2, 1) := by decide +kernel
theorem dX4_readOutside_30 : decode cX4_readOutside 30 = .ok (.bipush 43, 2) := by decide +kernel
theorem dX4_readOutside_32 : decode cX4_readOutside 32 = .ok (.if_icmp .ne 14, 3) := by decide +kernel
theorem dX4_readOutside_35 : decode cX4_readOutside 35 = .ok (.aload_n 0, 1) := by decide +kernel
theorem dX4_readOutside_36 : decode cX4_readOutside 36 = .ok (.iconst 2, 1) := by decide +kernel
theorem dX4_readOutside_37 : decode cX4_readOutside 37 = .ok (.iconst 0, 1) := by decide +kernel
theorem dX4_readOutside_38 : decode cX4_readOutside 38 = .ok (.bipush 40, 2) := by decide +kernel
theorem dX4_readOutside_40 : decode cX4_readOutside 40 = .ok (.invokevirtual 52, 3) := by decide +kernel
theorem dX4_readOutside_43 : decode cX4_readOutside 43 = .ok (.goto 11, 3) := by decide +kernel
theorem dX4_readOutside_46 : decode cX4_readOutside 46 = .ok (.aload_n 0, 1) := by decide +kernel
theorem dX4_readOutside_47 : decode cX4_readOutside 47 = .ok (.iconst 2, 1) := by decide +kernel
theorem dX4_readOutside_48 : decode cX4_readOutside 48 = .ok (.iconst 1, 1) := by decide +kernel
theorem dX4_readOutside_49 : decode cX4_readOutside 49 = .ok (.bipush 20, 2) := by decide +kernel
theorem dX4_readOutside_51 : decode cX4_readOutside 51 = .ok (.invokevirtual 52, 3) := by decide +kernel
theorem dX4_readOutside_54 : decode cX4_readOutside 54 = .ok (.istore_n 3, 1) := by decide +kernel
theorem dX4_readOutside_55 : decode cX4_readOutside 55 = .ok (.iload_n 3, 1) := by decide +kernel
theorem dX4_readOutside_56 : decode cX4_readOutside 56 = .ok (.iconst (-1), 1) := by decide +kernel
theorem dX4_readOutside_57 : decode cX4_readOutside 57 = .ok (.if_icmp .ne 5, 3) := by decide +kernel
theorem dX4_readOutside_60 : decode cX4_readOutside 60 = .ok (.iconst 0, 1) := by decide +kernel
theorem dX4_readOutside_61 : decode cX4_readOutside 61 = .ok (.ireturn, 1) := by decide +kernel
theorem dX4_readOutside_62 : decode cX4_readOutside 62 = .ok (.aload_n 1, 1) := by decide +kernel
theorem dX4_readOutside_63 : decode cX4_readOutside 63 = .ok (.iload_n 2, 1) := by decide +kernel
theorem dX4_readOutside_64 : decode cX4_readOutside 64 = .ok (.bipush 43, 2) := by decide +kernel
theorem dX4_readOutside_66 : decode cX4_readOutside 66 = .ok (.if_icmp .ne 7, 3) := by decide +kernel
theorem dX4_readOutside_69 : decode cX4_readOutside 69 = .ok (.iload_n 3, 1) := by decide +kernel
theorem dX4_readOutside_70 : decode cX4_readOutside 70 = .ok (.goto 5, 3) := by decide +kernel
theorem dX4_readOutside_73 : decode cX4_readOutside 73 = .ok (.iload_n 3, 1) := by decide +kernel
theorem dX4_readOutside_74 : decode cX4_readOutside 74 = .ok (.ineg, 1) := by decide +kernel
theorem dX4_readOutside_75 : decode cX4_readOutside 75 = .ok (.putfield 71, 3) := by decide +kernel
theorem dX4_readOutside_78 : decode cX4_readOutside 78 = .ok (.iconst 1, 1) := by decide +kernel
theorem dX4_readOutside_79 : decode cX4_readOutside 79 = .ok (.ireturn, 1) := by decide +kernel
theorem dX4_readNumber_0 : decode cX4_readNumber 0 = .ok (.iconst 1, 1) := by decide +kernel
theorem dX4_readNumber_1 : decode cX4_readNumber 1 = .ok (.istore 4, 2) := by decide +kernel
theorem dX4_readNumber_3 : decode cX4_readNumber 3 = .ok (.iconst 1, 1) := by decide +kernel
theorem dX4_readNumber_4 : decode cX4_readNumber 4 = .ok (.istore 5, 2) := by decide +kernel
theorem dX4_readNumber_6 : decode cX4_readNumber 6 = .ok (.iload 5, 2) := by decide +kernel
theorem dX4_readNumber_8 : decode cX4_readNumber 8 = .ok (.iload_n 1, 1) := by decide +kernel
theorem dX4_readNumber_9 : decode cX4_readNumber 9 = .ok (.if_icmp .ge 16, 3) := by decide +kernel
theorem dX4_readNumber_12 : decode cX4_readNumber 12 = .ok (.iload 4, 2) := by decide +kernel
theorem dX4_readNumber_14 : decode cX4_readNumber 14 = .ok (.bipush 10, 2) := by decide +kernel
theorem dX4_readNumber_16 : decode cX4_readNumber 16 = .ok (.imul, 1) := by decide +kernel
theorem dX4_readNumber_17 : decode cX4_readNumber 17 = .ok (.istore 4, 2) := by decide +kernel
theorem dX4_readNumber_19 : decode cX4_readNumber 19 = .ok (.iinc 5 1, 3) := by decide +kernel
theorem dX4_readNumber_22 : decode cX4_readNumber 22 = .ok (.goto (-16), 3) := by decide +kernel
theorem dX4_readNumber_25 : decode cX4_readNumber 25 = .ok (.iconst 0, 1) := by decide +kernel
theorem dX4_readNumber_26 : decode cX4_readNumber 26 = .ok (.istore 5, 2) := by decide +kernel
theorem dX4_readNumber_28 : decode cX4_readNumber 28 = .ok (.iconst 0, 1) := by decide +kernel
theorem dX4_readNumber_29 : decode cX4_readNumber 29 = .ok (.istore 6, 2) := by decide +kernel
theorem dX4_readNumber_31 : decode cX4_readNumber 31 = .ok (.iload 6, 2) := by decide +kernel
theorem dX4_readNumber_33 : decode cX4_readNumber 33 = .ok (.iload_n 1, 1) := by decide +kernel
theorem dX4_readNumber_34 : decode cX4_readNumber 34 = .ok (.if_icmp .ge 84, 3) := by decide +kernel
theorem dX4_readNumber_37 : decode cX4_readNumber 37 = .ok (.aload_n 0, 1) := by decide +kernel
theorem dX4_readNumber_38 : decode cX4_readNumber 38 = .ok (.invokevirtual 34, 3) := by decide +kernel
theorem dX4_readNumber_41 : decode cX4_readNumber 41 = .ok (.istore 7, 2) := by decide +kernel
theorem dX4_readNumber_43 : decode cX4_readNumber 43 = .ok (.iload 7, 2) := by decide +kernel
theorem dX4_readNumber_45 : decode cX4_readNumber 45 = .ok (.bipush 48, 2) := by decide +kernel
theorem dX4_readNumber_47 : decode cX4_readNumber 47 = .ok (.if_icmp .lt 10, 3) := by decide +kernel
theorem dX4_readNumber_50 : decode cX4_readNumber 50 = .ok (.iload 7, 2) := by decide +kernel
theorem dX4_readNumber_52 : decode cX4_readNumber 52 = .ok (.bipush 57, 2) := by decide +kernel
theorem dX4_readNumber_54 : decode cX4_readNumber 54 = .ok (.if_icmp .le 5, 3) := by decide +kernel
theorem dX4_readNumber_57 : decode cX4_readNumber 57 = .ok (.iconst (-1), 1) := by decide +kernel
theorem dX4_readNumber_58 : decode cX4_readNumber 58 = .ok (.ireturn, 1) := by decide +kernel
theorem dX4_readNumber_59 : decode cX4_readNumber 59 = .ok (.iload 5, 2) := by decide +kernel
theorem dX4_readNumber_61 : decode cX4_readNumber 61 = .ok (.iload 7, 2) := by decide +kernel
theorem dX4_readNumber_63 : decode cX4_readNumber 63 = .ok (.bipush 48, 2) := by decide +kernel
theorem dX4_readNumber_65 : decode cX4_readNumber 65 = .ok (.isub, 1) := by decide +kernel
theorem dX4_readNumber_66 : decode cX4_readNumber 66 = .ok (.iload 4, 2) := by decide +kernel
theorem dX4_readNumber_68 : decode cX4_readNumber 68 = .ok (.imul, 1) := by decide +kernel
theorem dX4_readNumber_69 : decode cX4_readNumber 69 = .ok (.iadd, 1) := by decide +kernel
theorem dX4_readNumber_70 : decode cX4_readNumber 70 = .ok (.istore 8, 2) := by decide +kernel
theorem dX4_readNumber_72 : decode cX4_readNumber 72 = .ok (.iload 8, 2) := by decide +kernel
theorem dX4_readNumber_74 : decode cX4_readNumber 74 = .ok (.iload_n 3, 1) := by decide +kernel
theorem dX4_readNumber_75 : decode cX4_readNumber 75 = .ok (.if_icmp .gt 14, 3) := by decide +kernel
theorem dX4_readNumber_78 : decode cX4_readNumber 78 = .ok (.iload 8, 2) := by decide +kernel
theorem dX4_readNumber_80 : decode cX4_readNumber 80 = .ok (.iload 4, 2) := by decide +kernel
theorem dX4_readNumber_82 : decode cX4_readNumber 82 = .ok (.iadd, 1) := by decide +kernel
theorem dX4_readNumber_83 : decode cX4_readNumber 83 = .ok (.iconst 1, 1) := by decide +kernel
theorem dX4_readNumber_84 : decode cX4_readNumber 84 = .ok (.isub, 1) := by decide +kernel
theorem dX4_readNumber_85 : decode cX4_readNumber 85 = .ok (.iload_n 2, 1) := by decide +kernel
theorem dX4_readNumber_86 : decode cX4_readNumber 86 = .ok (.if_icmp .ge 5, 3) := by decide +kernel
theorem dX4_readNumber_89 : decode cX4_readNumber 89 = .ok (.iconst (-1), 1) := by decide +kernel
theorem dX4_readNumber_90 : decode cX4_readNumber 90 = .ok (.ireturn, 1) := by decide +kernel
theorem dX4_readNumber_91 : decode cX4_readNumber 91 = .ok (.iload 8, 2) := by decide +kernel
theorem dX4_readNumber_93 : decode cX4_readNumber 93 = .ok (.istore 5, 2) := by decide +kernel
theorem dX4_readNumber_95 : decode cX4_readNumber 95 = .ok (.iload 4, 2) := by decide +kernel
theorem dX4_readNumber_97 : decode cX4_readNumber 97 = .ok (.bipush 10, 2) := by decide +kernel
theorem dX4_readNumber_99 : decode cX4_readNumber 99 = .ok (.idiv, 1) := by decide +kernel
theorem dX4_readNumber_100 : decode cX4_readNumber 100 = .ok (.istore 4, 2) := by decide +kernel
theorem dX4_readNumber_102 : decode cX4_readNumber 102 = .ok (.aload_n 0, 1) := by decide +kernel
theorem dX4_readNumber_103 : decode cX4_readNumber 103 = .ok (.dup, 1) := by decide +kernel
theorem dX4_readNumber_104 : decode cX4_readNumber 104 = .ok (.getfield 28, 3) := by decide +kernel
theorem dX4_readNumber_107 : decode cX4_readNumber 107 = .ok (.iconst 1, 1) := by decide +kernel
theorem dX4_readNumber_108 : decode cX4_readNumber 108 = .ok (.iadd, 1) := by decide +kernel
theorem dX4_readNumber_109 : decode cX4_readNumber 109 = .ok (.putfield 28, 3) := by decide +kernel
theorem dX4_readNumber_112 : decode cX4_readNumber 112 = .ok (.iinc 6 1, 3) := by decide +kernel
theorem dX4_readNumber_115 : decode cX4_readNumber 115 = .ok (.goto (-84), 3) := by decide +kernel
theorem dX4_readNumber_118 : decode cX4_readNumber 118 = .ok (.iload 5, 2) := by decide +kernel
theorem dX4_readNumber_120 : decode cX4_readNumber 120 = .ok (.ireturn, 1) := by decide +kernel
theorem dX4_here_0 : decode cX4_here 0 = .ok (.aload_n 0, 1) := by decide +kernel
theorem dX4_here_1 : decode cX4_here 1 = .ok (.getfield 28, 3) := by decide +kernel
theorem dX4_here_4 : decode cX4_here 4 = .ok (.ifCond .lt 26, 3) := by decide +kernel
theorem dX4_here_7 : decode cX4_here 7 = .ok (.aload_n 0, 1) := by decide +kernel
theorem dX4_here_8 : decode cX4_here 8 = .ok (.getfield 28, 3) := by decide +kernel
theorem dX4_here_11 : decode cX4_here 11 = .ok (.aload_n 0, 1) := by decide +kernel
theorem dX4_here_12 : decode cX4_here 12 = .ok (.getfield 15, 3) := by decide +kernel
theorem dX4_here_15 : decode cX4_here 15 = .ok (.if_icmp .ge 15, 3) := by decide +kernel
theorem dX4_here_18 : decode cX4_here 18 = .ok (.aload_n 0, 1) := by decide +kernel
theorem dX4_here_19 : decode cX4_here 19 = .ok (.getfield 28, 3) := by decide +kernel
theorem dX4_here_22 : decode cX4_here 22 = .ok (.aload_n 0, 1) := by decide +kernel
theorem dX4_here_23 : decode cX4_here 23 = .ok (.getfield 9, 3) := by decide +kernel
theorem dX4_here_26 : decode cX4_here 26 = .ok (.arraylength, 1) := by decide +kernel
theorem dX4_here_27 : decode cX4_here 27 = .ok (.if_icmp .lt 5, 3) := by decide +kernel
theorem dX4_here_30 : decode cX4_here 30 = .ok (.iconst (-1), 1) := by decide +kernel
theorem dX4_here_31 : decode cX4_here 31 = .ok (.ireturn, 1) := by decide +kernel
theorem dX4_here_32 : decode cX4_here 32 = .ok (.aload_n 0, 1) := by decide +kernel
theorem dX4_here_33 : decode cX4_here 33 = .ok (.getfield 9, 3) := by decide +kernel
theorem dX4_here_36 : decode cX4_here 36 = .ok (.aload_n 0, 1) := by decide +kernel
theorem dX4_here_37 : decode cX4_here 37 = .ok (.getfield 28, 3) := by decide +kernel
theorem dX4_here_40 : decode cX4_here 40 = .ok (.caload, 1) := by decide +kernel
theorem dX4_here_41 : decode cX4_here 41 = .ok (.ireturn, 1) := by decide +kernel
theorem dX5_init_0 : decode cX5_init 0 = .ok (.aload_n 0, 1) := by decide +kernel
theorem dX5_init_1 : decode cX5_init 1 = .ok (.invokespecial 3, 3) := by decide +kernel
theorem dX5_init_4 : decode cX5_init 4 = .ok (.aload_n 0, 1) := by decide +kernel
theorem dX5_init_5 : decode cX5_init 5 = .ok (.bipush 80, 2) := by decide +kernel
theorem dX5_init_7 : decode cX5_init 7 = .ok (.newarray .char, 2) := by decide +kernel
theorem dX5_init_9 : decode cX5_init 9 = .ok (.putfield 9, 3) := by decide +kernel
theorem dX5_init_12 : decode cX5_init 12 = .ok (.aload_n 0, 1) := by decide +kernel
theorem dX5_init_13 : decode cX5_init 13 = .ok (.new 13, 3) := by decide +kernel
theorem dX5_init_16 : decode cX5_init 16 = .ok (.dup, 1) := by decide +kernel
theorem dX5_init_17 : decode cX5_init 17 = .ok (.invokespecial 15, 3) := by decide +kernel
theorem dX5_init_20 : decode cX5_init 20 = .ok (.putfield 16, 3) := by decide +kernel
theorem dX5_init_23 : decode cX5_init 23 = .ok (.aload_n 0, 1) := by decide +kernel
theorem dX5_init_24 : decode cX5_init 24 = .ok (.new 13, 3) := by decide +kernel
theorem dX5_init_27 : decode cX5_init 27 = .ok (.dup, 1) := by decide +kernel
theorem dX5_init_28 : decode cX5_init 28 = .ok (.invokespecial 15, 3) := by decide +kernel
theorem dX5_init_31 : decode cX5_init 31 = .ok (.putfield 20, 3) := by decide +kernel
theorem dX5_init_34 : decode cX5_init 34 = .ok (.aload_n 0, 1) := by decide +kernel
theorem dX5_init_35 : decode cX5_init 35 = .ok (.new 23, 3) := by decide +kernel
theorem dX5_init_38 : decode cX5_init 38 = .ok (.dup, 1) := by decide +kernel
theorem dX5_init_39 : decode cX5_init 39 = .ok (.invokespecial 25, 3) := by decide +kernel
theorem dX5_init_42 : decode cX5_init 42 = .ok (.putfield 26, 3) := by decide +kernel
theorem dX5_init_45 : decode cX5_init 45 = .ok (.aload_n 0, 1) := by decide +kernel
theorem dX5_init_46 : decode cX5_init 46 = .ok (.iconst 2, 1) := by decide +kernel
theorem dX5_init_47 : decode cX5_init 47 = .ok (.anewarray 13, 3) := by decide +kernel
theorem dX5_init_50 : decode cX5_init 50 = .ok (.putfield 30, 3) := by decide +kernel
theorem dX5_init_53 : decode cX5_init 53 = .ok (.aload_n 0, 1) := by decide +kernel
theorem dX5_init_54 : decode cX5_init 54 = .ok (.iconst 2, 1) := by decide +kernel
theorem dX5_init_55 : decode cX5_init 55 = .ok (.newarray .boolean, 2) := by decide +kernel
theorem dX5_init_57 : decode cX5_init 57 = .ok (.putfield 34, 3) := by decide +kernel
theorem dX5_init_60 : decode cX5_init 60 = .ok (.iconst 0, 1) := by decide +kernel
theorem dX5_init_61 : decode cX5_init 61 = .ok (.istore_n 1, 1) := by decide +kernel
theorem dX5_init_62 : decode cX5_init 62 = .ok (.iload_n 1, 1) := by decide +kernel
theorem dX5_init_63 : decode cX5_init 63 = .ok (.aload_n 0, 1) := by decide +kernel
theorem dX5_init_64 : decode cX5_init 64 = .ok (.getfield 30, 3) := by decide +kernel
theorem dX5_init_67 : decode cX5_init 67 = .ok (.arraylength, 1) := by decide +kernel
theorem dX5_init_68 : decode cX5_init 68 = .ok (.if_icmp .ge 22, 3) := by decide +kernel
theorem dX5_init_71 : decode cX5_init 71 = .ok (.aload_n 0, 1) := by decide +kernel
theorem dX5_init_72 : decode cX5_init 72 = .ok (.getfield 30, 3) := by decide +kernel
theorem dX5_init_75 : decode cX5_init 75 = .ok (.iload_n 1, 1) := by decide +kernel
theorem dX5_init_76 : decode cX5_init 76 = .ok (.new 13, 3) := by decide +kernel
theorem dX5_init_79 : decode cX5_init 79 = .ok (.dup, 1) := by decide +kernel
theorem dX5_init_80 : decode cX5_init 80 = .ok (.invokespecial 15, 3) := by decide +kernel
theorem dX5_init_83 : decode cX5_init 83 = .ok (.aastore, 1) := by decide +kernel
theorem dX5_init_84 : decode cX5_init 84 = .ok (.iinc 1 1, 3) := by decide +kernel
theorem dX5_init_87 : decode cX5_init 87 = .ok (.goto (-25), 3) := by decide +kernel
theorem dX5_init_90 : decode cX5_init 90 = .ok (.return_, 1) := by decide +kernel
theorem dX5_append_0 : decode cX5_append 0 = .ok (.iload_n 1, 1) := by decide +kernel
theorem dX5_append_1 : decode cX5_append 1 = .ok (.ifCond .lt 10, 3) := by decide +kernel
theorem dX5_append_4 : decode cX5_append 4 = .ok (.iload_n 1, 1) := by decide +kernel
theorem dX5_append_5 : decode cX5_append 5 = .ok (.sipush 255, 3) := by decide +kernel
theorem dX5_append_8 : decode cX5_append 8 = .ok (.if_icmp .le 13, 3) := by decide +kernel
theorem dX5_append_11 : decode cX5_append 11 = .ok (.new 38, 3) := by decide +kernel
theorem dX5_append_14 : decode cX5_append 14 = .ok (.dup, 1) := by decide +kernel
theorem dX5_append_15 : decode cX5_append 15 = .ok (.ldc 40, 2) := by decide +kernel
theorem dX5_append_17 : decode cX5_append 17 = .ok (.invokespecial 42, 3) := by decide +kernel
theorem dX5_append_20 : decode cX5_append 20 = .ok (.athrow, 1) := by decide +kernel
theorem dX5_append_21 : decode cX5_append 21 = .ok (.aload_n 0, 1) := by decide +kernel
theorem dX5_append_22 : decode cX5_append 22 = .ok (.getfield 45, 3) := by decide +kernel
theorem dX5_append_25 : decode cX5_append 25 = .ok (.ifCond .lt 15, 3) := by decide +kernel
theorem dX5_append_28 : decode cX5_append 28 = .ok (.aload_n 0, 1) := by decide +kernel
theorem dX5_append_29 : decode cX5_append 29 = .ok (.getfield 45, 3) := by decide +kernel
theorem dX5_append_32 : decode cX5_append 32 = .ok (.aload_n 0, 1) := by decide +kernel
theorem dX5_append_33 : decode cX5_append 33 = .ok (.getfield 9, 3) := by decide +kernel
theorem dX5_append_36 : decode cX5_append 36 = .ok (.arraylength, 1) := by decide +kernel
theorem dX5_append_37 : decode cX5_append 37 = .ok (.if_icmp .lt 13, 3) := by decide +kernel
theorem dX5_append_40 : decode cX5_append 40 = .ok (.new 49, 3) := by decide +kernel
theorem dX5_append_43 : decode cX5_append 43 = .ok (.dup, 1) := by decide +kernel
theorem dX5_append_44 : decode cX5_append 44 = .ok (.ldc 51, 2) := by decide +kernel
theorem dX5_append_46 : decode cX5_append 46 = .ok (.invokespecial 53, 3) := by decide +kernel
theorem dX5_append_49 : decode cX5_append 49 = .ok (.athrow, 1) := by decide +kernel
theorem dX5_append_50 : decode cX5_append 50 = .ok (.aload_n 0, 1) := by decide +kernel
theorem dX5_append_51 : decode cX5_append 51 = .ok (.getfield 9, 3) := by decide +kernel
theorem dX5_append_54 : decode cX5_append 54 = .ok (.aload_n 0, 1) := by decide +kernel
theorem dX5_append_55 : decode cX5_append 55 = .ok (.getfield 45, 3) := by decide +kernel
theorem dX5_append_58 : decode cX5_append 58 = .ok (.iload_n 1, 1) := by decide +kernel
theorem dX5_append_59 : decode cX5_append 59 = .ok (.i2c, 1) := by decide +kernel
theorem dX5_append_60 : decode cX5_append 60 = .ok (.castore, 1) := by decide +kernel
theorem dX5_append_61 : decode cX5_append 61 = .ok (.aload_n 0, 1) := by decide +kernel
theorem dX5_append_62 : decode cX5_append 62 = .ok (.dup, 1) := by decide +kernel
theorem dX5_append_63 : decode cX5_append 63 = .ok (.getfield 45, 3) := by decide +kernel
theorem dX5_append_66 : decode cX5_append 66 = .ok (.iconst 1, 1) := by decide +kernel
theorem dX5_append_67 : decode cX5_append 67 = .ok (.iadd, 1) := by decide +kernel
theorem dX5_append_68 : decode cX5_append 68 = .ok (.putfield 45, 3) := by decide +kernel
theorem dX5_append_71 : decode cX5_append 71 = .ok (.aload_n 0, 1) := by decide +kernel
theorem dX5_append_72 : decode cX5_append 72 = .ok (.getfield 45, 3) := by decide +kernel
theorem dX5_append_75 : decode cX5_append 75 = .ok (.ireturn, 1) := by decide +kernel
theorem dX5_clearText_0 : decode cX5_clearText 0 = .ok (.aload_n 0, 1) := by decide +kernel
theorem dX5_clearText_1 : decode cX5_clearText 1 = .ok (.getfield 45, 3) := by decide +kernel
theorem dX5_clearText_4 : decode cX5_clearText 4 = .ok (.istore_n 1, 1) := by decide +kernel
theorem dX5_clearText_5 : decode cX5_clearText 5 = .ok (.aload_n 0, 1) := by decide +kernel
theorem dX5_clearText_6 : decode cX5_clearText 6 = .ok (.iconst 0, 1) := by decide +kernel
theorem dX5_clearText_7 : decode cX5_clearText 7 = .ok (.putfield 45, 3) := by decide +kernel
theorem dX5_clearText_10 : decode cX5_clearText 10 = .ok (.iload_n 1, 1) := by decide +kernel
theorem dX5_clearText_11 : decode cX5_clearText 11 = .ok (.ireturn, 1) := by decide +kernel
theorem dX5_errorPosition_0 : decode cX5_errorPosition 0 = .ok (.new 54, 3) := by decide +kernel
theorem dX5_errorPosition_3 : decode cX5_errorPosition 3 = .ok (.dup, 1) := by decide +kernel
theorem dX5_errorPosition_4 : decode cX5_errorPosition 4 = .ok (.aload_n 0, 1) := by decide +kernel
theorem dX5_errorPosition_5 : decode cX5_errorPosition 5 = .ok (.getfield 9, 3) := by decide +kernel
theorem dX5_errorPosition_8 : decode cX5_errorPosition 8 = .ok (.aload_n 0, 1) := by decide +kernel
theorem dX5_errorPosition_9 : decode cX5_errorPosition 9 = .ok (.getfield 45, 3) := by decide +kernel
theorem dX5_errorPosition_12 : decode cX5_errorPosition 12 = .ok (.invokespecial 56, 3) := by decide +kernel
theorem dX5_errorPosition_15 : decode cX5_errorPosition 15 = .ok (.astore_n 1, 1) := by decide +kernel
theorem dX5_errorPosition_16 : decode cX5_errorPosition 16 = .ok (.aload_n 1, 1) := by decide +kernel
theorem dX5_errorPosition_17 : decode cX5_errorPosition 17 = .ok (.aload_n 0, 1) := by decide +kernel
theorem dX5_errorPosition_18 : decode cX5_errorPosition 18 = .ok (.getfield 20, 3) := by decide +kernel
theorem dX5_errorPosition_21 : decode cX5_errorPosition 21 = .ok (.invokevirtual 59, 3) := by decide +kernel
theorem dX5_errorPosition_24 : decode cX5_errorPosition 24 = .ok (.ifCond .eq 8, 3) := by decide +kernel
theorem dX5_errorPosition_27 : decode cX5_errorPosition 27 = .ok (.ldc 63, 2) := by decide +kernel
theorem dX5_errorPosition_29 : decode cX5_errorPosition 29 = .ok (.goto 7, 3) := by decide +kernel
theorem dX5_errorPosition_32 : decode cX5_errorPosition 32 = .ok (.aload_n 1, 1) := by decide +kernel
theorem dX5_errorPosition_33 : decode cX5_errorPosition 33 = .ok (.getfield 64, 3) := by decide +kernel
theorem dX5_errorPosition_36 : decode cX5_errorPosition 36 = .ok (.ireturn, 1) := by decide +kernel
theorem dX5_load_0 : decode cX5_load 0 = .ok (.new 54, 3) := by decide +kernel
theorem dX5_load_3 : decode cX5_load 3 = .ok (.dup, 1) := by decide +kernel
theorem dX5_load_4 : decode cX5_load 4 = .ok (.aload_n 0, 1) := by decide +kernel
theorem dX5_load_5 : decode cX5_load 5 = .ok (.getfield 9, 3) := by decide +kernel
theorem dX5_load_8 : decode cX5_load 8 = .ok (.aload_n 0, 1) := by decide +kernel
theorem dX5_load_9 : decode cX5_load 9 = .ok (.getfield 45, 3) := by decide +kernel
theorem dX5_load_12 : decode cX5_load 12 = .ok (.invokespecial 56, 3) := by decide +kernel
theorem dX5_load_15 : decode cX5_load 15 = .ok (.astore_n 1, 1) := by decide +kernel
theorem dX5_load_16 : decode cX5_load 16 = .ok (.aload_n 1, 1) := by decide +kernel
theorem dX5_load_17 : decode cX5_load 17 = .ok (.aload_n 0, 1) := by decide +kernel
theorem dX5_load_18 : decode cX5_load 18 = .ok (.getfield 20, 3) := by decide +kernel
theorem dX5_load_21 : decode cX5_load 21 = .ok (.invokevirtual 59, 3) := by decide +kernel
theorem dX5_load_24 : decode cX5_load 24 = .ok (.ifCond .ne 13, 3) := by decide +kernel
theorem dX5_load_27 : decode cX5_load 27 = .ok (.new 49, 3) := by decide +kernel
theorem dX5_load_30 : decode cX5_load 30 = .ok (.dup, 1) := by decide +kernel
theorem dX5_load_31 : decode cX5_load 31 = .ok (.ldc 67, 2) := by decide +kernel
theorem dX5_load_33 : decode cX5_load 33 = .ok (.invokespecial 53, 3) := by decide +kernel
theorem dX5_load_36 : decode cX5_load 36 = .ok (.athrow, 1) := by decide +kernel
theorem dX5_load_37 : decode cX5_load 37 = .ok (.aload_n 0, 1) := by decide +kernel
theorem dX5_load_38 : decode cX5_load 38 = .ok (.getfield 16, 3) := by decide +kernel
theorem dX5_load_41 : decode cX5_load 41 = .ok (.aload_n 0, 1) := by decide +kernel
theorem dX5_load_42 : decode cX5_load 42 = .ok (.getfield 20, 3) := by decide +kernel
theorem dX5_load_45 : decode cX5_load 45 = .ok (.invokevirtual 69, 3) := by decide +kernel
theorem dX5_load_48 : decode cX5_load 48 = .ok (.aload_n 0, 1) := by decide +kernel
theorem dX5_load_49 : decode cX5_load 49 = .ok (.getfield 26, 3) := by decide +kernel
theorem dX5_load_52 : decode cX5_load 52 = .ok (.invokevirtual 73, 3) := by decide +kernel
theorem dX5_load_55 : decode cX5_load 55 = .ok (.iconst 0, 1) := by decide +kernel
theorem dX5_load_56 : decode cX5_load 56 = .ok (.istore_n 2, 1) := by decide +kernel
theorem dX5_load_57 : decode cX5_load 57 = .ok (.iload_n 2, 1) := by decide +kernel
theorem dX5_load_58 : decode cX5_load 58 = .ok (.aload_n 0, 1) := by decide +kernel
theorem dX5_load_59 : decode cX5_load 59 = .ok (.getfield 34, 3) := by decide +kernel
theorem dX5_load_62 : decode cX5_load 62 = .ok (.arraylength, 1) := by decide +kernel
theorem dX5_load_63 : decode cX5_load 63 = .ok (.if_icmp .ge 16, 3) := by decide +kernel
theorem dX5_load_66 : decode cX5_load 66 = .ok (.aload_n 0, 1) := by decide +kernel
theorem dX5_load_67 : decode cX5_load 67 = .ok (.getfield 34, 3) := by decide +kernel
theorem dX5_load_70 : decode cX5_load 70 = .ok (.iload_n 2, 1) := by decide +kernel
theorem dX5_load_71 : decode cX5_load 71 = .ok (.iconst 0, 1) := by decide +kernel
theorem dX5_load_72 : decode cX5_load 72 = .ok (.bastore, 1) := by decide +kernel
theorem dX5_load_73 : decode cX5_load 73 = .ok (.iinc 2 1, 3) := by decide +kernel
theorem dX5_load_76 : decode cX5_load 76 = .ok (.goto (-19), 3) := by decide +kernel
theorem dX5_load_79 : decode cX5_load 79 = .ok (.aload_n 0, 1) := by decide +kernel
theorem dX5_load_80 : decode cX5_load 80 = .ok (.getfield 16, 3) := by decide +kernel
theorem dX5_load_83 : decode cX5_load 83 = .ok (.getfield 76, 3) := by decide +kernel
theorem dX5_load_86 : decode cX5_load 86 = .ok (.ireturn, 1) := by decide +kernel
theorem dX5_about_0 : decode cX5_about 0 = .ok (.iload_n 1, 1) := by decide +kernel
theorem dX5_about_1 : decode cX5_about 1 = .ok (.tableswitch 190 0 12 #[67, 75, 83, 91, 107, 115, 123, 139, 147, 155, 163, 171, 182], 67) := by decide +kernel
theorem dX5_about_68 : decode cX5_about 68 = .ok (.aload_n 0, 1) := by decide +kernel
theorem dX5_about_69 : decode cX5_about 69 = .ok (.getfield 16, 3) := by decide +kernel
theorem dX5_about_72 : decode cX5_about 72 = .ok (.getfield 76, 3) := by decide +kernel
theorem dX5_about_75 : decode cX5_about 75 = .ok (.ireturn, 1) := by decide +kernel
theorem dX5_about_76 : decode cX5_about 76 = .ok (.aload_n 0, 1) := by decide +kernel
theorem dX5_about_77 : decode cX5_about 77 = .ok (.getfield 16, 3) := by decide +kernel
theorem dX5_about_80 : decode cX5_about 80 = .ok (.getfield 79, 3) := by decide +kernel
theorem dX5_about_83 : decode cX5_about 83 = .ok (.ireturn, 1) := by decide +kernel
theorem dX5_about_84 : decode cX5_about 84 = .ok (.aload_n 0, 1) := by decide +kernel
theorem dX5_about_85 : decode cX5_about 85 = .ok (.getfield 16, 3) := by decide +kernel
theorem dX5_about_88 : decode cX5_about 88 = .ok (.getfield 82, 3) := by decide +kernel
theorem dX5_about_91 : decode cX5_about 91 = .ok (.ireturn, 1) := by decide +kernel
theorem dX5_about_92 : decode cX5_about 92 = .ok (.aload_n 0, 1) := by decide +kernel
theorem dX5_about_93 : decode cX5_about 93 = .ok (.getfield 16, 3) := by decide +kernel
theorem dX5_about_96 : decode cX5_about 96 = .ok (.getfield 85, 3) := by decide +kernel
theorem dX5_about_99 : decode cX5_about 99 = .ok (.ifCond .eq 7, 3) := by decide +kernel
theorem dX5_about_102 : decode cX5_about 102 = .ok (.iconst 1, 1) := by decide +kernel
theorem dX5_about_103 : decode cX5_about 103 = .ok (.goto 4, 3) := by decide +kernel
theorem dX5_about_106 : decode cX5_about 106 = .ok (.iconst 0, 1) := by decide +kernel
theorem dX5_about_107 : decode cX5_about 107 = .ok (.ireturn, 1) := by decide +kernel
theorem dX5_about_108 : decode cX5_about 108 = .ok (.aload_n 0, 1) := by decide +kernel
theorem dX5_about_109 : decode cX5_about 109 = .ok (.getfield 16, 3) := by decide +kernel
theorem dX5_about_112 : decode cX5_about 112 = .ok (.getfield 89, 3) := by decide +kernel
theorem dX5_about_115 : decode cX5_about 115 = .ok (.ireturn, 1) := by decide +kernel
theorem dX5_about_116 : decode cX5_about 116 = .ok (.aload_n 0, 1) := by decide +kernel
theorem dX5_about_117 : decode cX5_about 117 = .ok (.getfield 16, 3) := by decide +kernel
theorem dX5_about_120 : decode cX5_about 120 = .ok (.getfield 92, 3) := by decide +kernel
theorem dX5_about_123 : decode cX5_about 123 = .ok (.ireturn, 1) := by decide +kernel
theorem dX5_about_124 : decode cX5_about 124 = .ok (.aload_n 0, 1) := by decide +kernel
theorem dX5_about_125 : decode cX5_about 125 = .ok (.getfield 16, 3) := by decide +kernel
theorem dX5_about_128 : decode cX5_about 128 = .ok (.getfield 95, 3) := by decide +kernel
theorem dX5_about_131 : decode cX5_about 131 = .ok (.ifCond .eq 7, 3) := by decide +kernel
theorem dX5_about_134 : decode cX5_about 134 = .ok (.iconst 1, 1) := by decide +kernel
theorem dX5_about_135 : decode cX5_about 135 = .ok (.goto 4, 3) := by decide +kernel
theorem dX5_about_138 : decode cX5_about 138 = .ok (.iconst 0, 1) := by decide +kernel
theorem dX5_about_139 : decode cX5_about 139 = .ok (.ireturn, 1) := by decide +kernel
theorem dX5_about_140 : decode cX5_about 140 = .ok (.aload_n 0, 1) := by decide +kernel
theorem dX5_about_141 : decode cX5_about 141 = .ok (.getfield 16, 3) := by decide +kernel
theorem dX5_about_144 : decode cX5_about 144 = .ok (.getfield 98, 3) := by decide +kernel
theorem dX5_about_147 : decode cX5_about 147 = .ok (.ireturn, 1) := by decide +kernel
theorem dX5_about_148 : decode cX5_about 148 = .ok (.aload_n 0, 1) := by decide +kernel
theorem dX5_about_149 : decode cX5_about 149 = .ok (.getfield 16, 3) := by decide +kernel
theorem dX5_about_152 : decode cX5_about 152 = .ok (.invokevirtual 101, 3) := by decide +kernel
theorem dX5_about_155 : decode cX5_about 155 = .ok (.ireturn, 1) := by decide +kernel
theorem dX5_about_156 : decode cX5_about 156 = .ok (.aload_n 0, 1) := by decide +kernel
theorem dX5_about_157 : decode cX5_about 157 = .ok (.getfield 16, 3) := by decide +kernel
theorem dX5_about_160 : decode cX5_about 160 = .ok (.getfield 105, 3) := by decide +kernel
theorem dX5_about_163 : decode cX5_about 163 = .ok (.ireturn, 1) := by decide +kernel
theorem dX5_about_164 : decode cX5_about 164 = .ok (.aload_n 0, 1) := by decide +kernel
theorem dX5_about_165 : decode cX5_about 165 = .ok (.getfield 16, 3) := by decide +kernel
theorem dX5_about_168 : decode cX5_about 168 = .ok (.invokevirtual 108, 3) := by decide +kernel
theorem dX5_about_171 : decode cX5_about 171 = .ok (.ireturn, 1) := by decide +kernel
theorem dX5_about_172 : decode cX5_about 172 = .ok (.aload_n 0, 1) := by decide +kernel
theorem dX5_about_173 : decode cX5_about 173 = .ok (.getfield 16, 3) := by decide +kernel
theorem dX5_about_176 : decode cX5_about 176 = .ok (.getfield 111, 3) := by decide +kernel
theorem dX5_about_179 : decode cX5_about 179 = .ok (.getfield 115, 3) := by decide +kernel
theorem dX5_about_182 : decode cX5_about 182 = .ok (.ireturn, 1) := by decide +kernel
theorem dX5_about_183 : decode cX5_about 183 = .ok (.aload_n 0, 1) := by decide +kernel
theorem dX5_about_184 : decode cX5_about 184 = .ok (.getfield 16, 3) := by decide +kernel
theorem dX5_about_187 : decode cX5_about 187 = .ok (.invokevirtual 120, 3) := by decide +kernel
theorem dX5_about_190 : decode cX5_about 190 = .ok (.ireturn, 1) := by decide +kernel
theorem dX5_about_191 : decode cX5_about 191 = .ok (.new 38, 3) := by decide +kernel
theorem dX5_about_194 : decode cX5_about 194 = .ok (.dup, 1) := by decide +kernel
theorem dX5_about_195 : decode cX5_about 195 = .ok (.ldc 123, 2) := by decide +kernel
theorem dX5_about_197 : decode cX5_about 197 = .ok (.invokespecial 42, 3) := by decide +kernel
theorem dX5_about_200 : decode cX5_about 200 = .ok (.athrow, 1) := by decide +kernel
theorem dX5_setting_0 : decode cX5_setting 0 = .ok (.iload_n 1, 1) := by decide +kernel
theorem dX5_setting_1 : decode cX5_setting 1 = .ok (.ifCond .lt 9, 3) := by decide +kernel
theorem dX5_setting_4 : decode cX5_setting 4 = .ok (.iload_n 1, 1) := by decide +kernel
theorem dX5_setting_5 : decode cX5_setting 5 = .ok (.bipush 9, 2) := by decide +kernel
theorem dX5_setting_7 : decode cX5_setting 7 = .ok (.if_icmp .lt 13, 3) := by decide +kernel
theorem dX5_setting_10 : decode cX5_setting 10 = .ok (.new 38, 3) := by decide +kernel
theorem dX5_setting_13 : decode cX5_setting 13 = .ok (.dup, 1) := by decide +kernel
theorem dX5_setting_14 : decode cX5_setting 14 = .ok (.ldc 125, 2) := by decide +kernel
theorem dX5_setting_16 : decode cX5_setting 16 = .ok (.invokespecial 42, 3) := by decide +kernel
theorem dX5_setting_19 : decode cX5_setting 19 = .ok (.athrow, 1) := by decide +kernel
theorem dX5_setting_20 : decode cX5_setting 20 = .ok (.aload_n 0, 1) := by decide +kernel
theorem dX5_setting_21 : decode cX5_setting 21 = .ok (.getfield 16, 3) := by decide +kernel
theorem dX5_setting_24 : decode cX5_setting 24 = .ok (.iload_n 1, 1) := by decide +kernel
theorem dX5_setting_25 : decode cX5_setting 25 = .ok (.invokevirtual 127, 3) := by decide +kernel
theorem dX5_setting_28 : decode cX5_setting 28 = .ok (.ireturn, 1) := by decide +kernel
theorem dX5_place_0 : decode cX5_place 0 = .ok (.aload_n 0, 1) := by decide +kernel
theorem dX5_place_1 : decode cX5_place 1 = .ok (.getfield 16, 3) := by decide +kernel
theorem dX5_place_4 : decode cX5_place 4 = .ok (.iload_n 1, 1) := by decide +kernel
theorem dX5_place_5 : decode cX5_place 5 = .ok (.invokevirtual 131, 3) := by decide +kernel
theorem dX5_place_8 : decode cX5_place 8 = .ok (.ifCond .ne 13, 3) := by decide +kernel
theorem dX5_place_11 : decode cX5_place 11 = .ok (.new 135, 3) := by decide +kernel
theorem dX5_place_14 : decode cX5_place 14 = .ok (.dup, 1) := by decide +kernel
theorem dX5_place_15 : decode cX5_place 15 = .ok (.ldc 137, 2) := by decide +kernel
theorem dX5_place_17 : decode cX5_place 17 = .ok (.invokespecial 139, 3) := by decide +kernel
theorem dX5_place_20 : decode cX5_place 20 = .ok (.athrow, 1) := by decide +kernel
theorem dX5_place_21 : decode cX5_place 21 = .ok (.iload_n 2, 1) := by decide +kernel
theorem dX5_place_22 : decode cX5_place 22 = .ok (.tableswitch 53 0 2 #[26, 35, 44], 26) := by decide +kernel
theorem dX5_place_48 : decode cX5_place 48 = .ok (.aload_n 0, 1) := by decide +kernel
theorem dX5_place_49 : decode cX5_place 49 = .ok (.getfield 16, 3) := by decide +kernel
theorem dX5_place_52 : decode cX5_place 52 = .ok (.iload_n 1, 1) := by decide +kernel
theorem dX5_place_53 : decode cX5_place 53 = .ok (.invokevirtual 140, 3) := by decide +kernel
theorem dX5_place_56 : decode cX5_place 56 = .ok (.ireturn, 1) := by decide +kernel
theorem dX5_place_57 : decode cX5_place 57 = .ok (.aload_n 0, 1) := by decide +kernel
theorem dX5_place_58 : decode cX5_place 58 = .ok (.getfield 16, 3) := by decide +kernel
theorem dX5_place_61 : decode cX5_place 61 = .ok (.iload_n 1, 1) := by decide +kernel
theorem dX5_place_62 : decode cX5_place 62 = .ok (.invokevirtual 143, 3) := by decide +kernel
theorem dX5_place_65 : decode cX5_place 65 = .ok (.ireturn, 1) := by decide +kernel
theorem dX5_place_66 : decode cX5_place 66 = .ok (.aload_n 0, 1) := by decide +kernel
theorem dX5_place_67 : decode cX5_place 67 = .ok (.getfield 16, 3) := by decide +kernel
theorem dX5_place_70 : decode cX5_place 70 = .ok (.iload_n 1, 1) := by decide +kernel
theorem dX5_place_71 : decode cX5_place 71 = .ok (.invokevirtual 146, 3) := by decide +kernel
theorem dX5_place_74 : decode cX5_place 74 = .ok (.ireturn, 1) := by decide +kernel
theorem dX5_place_75 : decode cX5_place 75 = .ok (.new 38, 3) := by decide +kernel
theorem dX5_place_78 : decode cX5_place 78 = .ok (.dup, 1) := by decide +kernel
theorem dX5_place_79 : decode cX5_place 79 = .ok (.ldc 149, 2) := by decide +kernel
theorem dX5_place_81 : decode cX5_place 81 = .ok (.invokespecial 42, 3) := by decide +kernel
theorem dX5_place_84 : decode cX5_place 84 = .ok (.athrow, 1) := by decide +kernel
theorem dX5_room_0 : decode cX5_room 0 = .ok (.aload_n 0, 1) := by decide +kernel
theorem dX5_room_1 : decode cX5_room 1 = .ok (.getfield 16, 3) := by decide +kernel
theorem dX5_room_4 : decode cX5_room 4 = .ok (.iload_n 1, 1) := by decide +kernel
theorem dX5_room_5 : decode cX5_room 5 = .ok (.invokevirtual 151, 3) := by decide +kernel
theorem dX5_room_8 : decode cX5_room 8 = .ok (.ifCond .ne 13, 3) := by decide +kernel
theorem dX5_room_11 : decode cX5_room 11 = .ok (.new 135, 3) := by decide +kernel
theorem dX5_room_14 : decode cX5_room 14 = .ok (.dup, 1) := by decide +kernel
theorem dX5_room_15 : decode cX5_room 15 = .ok (.ldc 154, 2) := by decide +kernel
theorem dX5_room_17 : decode cX5_room 17 = .ok (.invokespecial 139, 3) := by decide +kernel
theorem dX5_room_20 : decode cX5_room 20 = .ok (.athrow, 1) := by decide +kernel
theorem dX5_room_21 : decode cX5_room 21 = .ok (.aload_n 0, 1) := by decide +kernel
theorem dX5_room_22 : decode cX5_room 22 = .ok (.getfield 16, 3) := by decide +kernel
theorem dX5_room_25 : decode cX5_room 25 = .ok (.getfield 156, 3) := by decide +kernel
theorem dX5_room_28 : decode cX5_room 28 = .ok (.iload_n 1, 1) := by decide +kernel
theorem dX5_room_29 : decode cX5_room 29 = .ok (.aaload, 1) := by decide +kernel
theorem dX5_room_30 : decode cX5_room 30 = .ok (.astore_n 3, 1) := by decide +kernel
theorem dX5_room_31 : decode cX5_room 31 = .ok (.iload_n 2, 1) := by decide +kernel
theorem dX5_room_32 : decode cX5_room 32 = .ok (.tableswitch 87 0 6 #[44, 49, 54, 59, 72, 77, 82], 44) := by decide +kernel
theorem dX5_room_76 : decode cX5_room 76 = .ok (.aload_n 3, 1) := by decide +kernel
theorem dX5_room_77 : decode cX5_room 77 = .ok (.getfield 160, 3) := by decide +kernel
theorem dX5_room_80 : decode cX5_room 80 = .ok (.ireturn, 1) := by decide +kernel
theorem dX5_room_81 : decode cX5_room 81 = .ok (.aload_n 3, 1) := by decide +kernel
theorem dX5_room_82 : decode cX5_room 82 = .ok (.getfield 165, 3) := by decide +kernel
theorem dX5_room_85 : decode cX5_room 85 = .ok (.ireturn, 1) := by decide +kernel
theorem dX5_room_86 : decode cX5_room 86 = .ok (.aload_n 3, 1) := by decide +kernel
theorem dX5_room_87 : decode cX5_room 87 = .ok (.getfield 168, 3) := by decide +kernel
theorem dX5_room_90 : decode cX5_room 90 = .ok (.ireturn, 1) := by decide +kernel
theorem dX5_room_91 : decode cX5_room 91 = .ok (.aload_n 3, 1) := by decide +kernel
theorem dX5_room_92 : decode cX5_room 92 = .ok (.getfield 171, 3) := by decide +kernel
theorem dX5_room_95 : decode cX5_room 95 = .ok (.ifCond .eq 7, 3) := by decide +kernel
theorem dX5_room_98 : decode cX5_room 98 = .ok (.iconst 1, 1) := by decide +kernel
theorem dX5_room_99 : decode cX5_room 99 = .ok (.goto 4, 3) := by decide +kernel
theorem dX5_room_102 : decode cX5_room 102 = .ok (.iconst 0, 1) := by decide +kernel
theorem dX5_room_103 : decode cX5_room 103 = .ok (.ireturn, 1) := by decide +kernel
theorem dX5_room_104 : decode cX5_room 104 = .ok (.aload_n 3, 1) := by decide +kernel
theorem dX5_room_105 : decode cX5_room 105 = .ok (.getfield 174, 3) := by decide +kernel
theorem dX5_room_108 : decode cX5_room 108 = .ok (.ireturn, 1) := by decide +kernel
theorem dX5_room_109 : decode cX5_room 109 = .ok (.aload_n 3, 1) := by decide +kernel
theorem dX5_room_110 : decode cX5_room 110 = .ok (.getfield 177, 3) := by decide +kernel
theorem dX5_room_113 : decode cX5_room 113 = .ok (.ireturn, 1) := by decide +kernel
theorem dX5_room_114 : decode cX5_room 114 = .ok (.aload_n 3, 1) := by decide +kernel
theorem dX5_room_115 : decode cX5_room 115 = .ok (.getfield 180, 3) := by decide +kernel
theorem dX5_room_118 : decode cX5_room 118 = .ok (.ireturn, 1) := by decide +kernel
theorem dX5_room_119 : decode cX5_room 119 = .ok (.new 38, 3) := by decide +kernel
theorem dX5_room_122 : decode cX5_room 122 = .ok (.dup, 1) := by decide +kernel
theorem dX5_room_123 : decode cX5_room 123 = .ok (.ldc 183, 2) := by decide +kernel
theorem dX5_room_125 : decode cX5_room 125 = .ok (.invokespecial 42, 3) := by decide +kernel
theorem dX5_room_128 : decode cX5_room 128 = .ok (.athrow, 1) := by decide +kernel
theorem dX5_moved_0 : decode cX5_moved 0 = .ok (.iload_n 1, 1) := by decide +kernel
theorem dX5_moved_1 : decode cX5_moved 1 = .ok (.ifCond .lt 19, 3) := by decide +kernel
theorem dX5_moved_4 : decode cX5_moved 4 = .ok (.iload_n 1, 1) := by decide +kernel
theorem dX5_moved_5 : decode cX5_moved 5 = .ok (.bipush 10, 2) := by decide +kernel
theorem dX5_moved_7 : decode cX5_moved 7 = .ok (.if_icmp .ge 13, 3) := by decide +kernel
theorem dX5_moved_10 : decode cX5_moved 10 = .ok (.iload_n 2, 1) := by decide +kernel
theorem dX5_moved_11 : decode cX5_moved 11 = .ok (.ifCond .lt 9, 3) := by decide +kernel
theorem dX5_moved_14 : decode cX5_moved 14 = .ok (.iload_n 2, 1) := by decide +kernel
theorem dX5_moved_15 : decode cX5_moved 15 = .ok (.bipush 10, 2) := by decide +kernel
theorem dX5_moved_17 : decode cX5_moved 17 = .ok (.if_icmp .lt 13, 3) := by decide +kernel
theorem dX5_moved_20 : decode cX5_moved 20 = .ok (.new 38, 3) := by decide +kernel
theorem dX5_moved_23 : decode cX5_moved 23 = .ok (.dup, 1) := by decide +kernel
theorem dX5_moved_24 : decode cX5_moved 24 = .ok (.ldc 185, 2) := by decide +kernel
theorem dX5_moved_26 : decode cX5_moved 26 = .ok (.invokespecial 42, 3) := by decide +kernel
theorem dX5_moved_29 : decode cX5_moved 29 = .ok (.athrow, 1) := by decide +kernel
theorem dX5_moved_30 : decode cX5_moved 30 = .ok (.aload_n 0, 1) := by decide +kernel
theorem dX5_moved_31 : decode cX5_moved 31 = .ok (.getfield 16, 3) := by decide +kernel
theorem dX5_moved_34 : decode cX5_moved 34 = .ok (.getfield 111, 3) := by decide +kernel
theorem dX5_moved_37 : decode cX5_moved 37 = .ok (.iload_n 1, 1) := by decide +kernel
theorem dX5_moved_38 : decode cX5_moved 38 = .ok (.iload_n 2, 1) := by decide +kernel
theorem dX5_moved_39 : decode cX5_moved 39 = .ok (.invokevirtual 187, 3) := by decide +kernel
theorem dX5_moved_42 : decode cX5_moved 42 = .ok (.ireturn, 1) := by decide +kernel
theorem dX5_way_0 : decode cX5_way 0 = .ok (.aload_n 0, 1) := by decide +kernel
theorem dX5_way_1 : decode cX5_way 1 = .ok (.getfield 16, 3) := by decide +kernel
theorem dX5_way_4 : decode cX5_way 4 = .ok (.getfield 111, 3) := by decide +kernel
theorem dX5_way_7 : decode cX5_way 7 = .ok (.iload_n 1, 1) := by decide +kernel
theorem dX5_way_8 : decode cX5_way 8 = .ok (.invokevirtual 191, 3) := by decide +kernel
theorem dX5_way_11 : decode cX5_way 11 = .ok (.ifCond .ne 13, 3) := by decide +kernel
theorem dX5_way_14 : decode cX5_way 14 = .ok (.new 135, 3) := by decide +kernel
theorem dX5_way_17 : decode cX5_way 17 = .ok (.dup, 1) := by decide +kernel
theorem dX5_way_18 : decode cX5_way 18 = .ok (.ldc 194, 2) := by decide +kernel
theorem dX5_way_20 : decode cX5_way 20 = .ok (.invokespecial 139, 3) := by decide +kernel
theorem dX5_way_23 : decode cX5_way 23 = .ok (.athrow, 1) := by decide +kernel
theorem dX5_way_24 : decode cX5_way 24 = .ok (.iload_n 2, 1) := by decide +kernel
theorem dX5_way_25 : decode cX5_way 25 = .ok (.tableswitch 66 0 2 #[27, 40, 53], 27) := by decide +kernel
theorem dX5_way_52 : decode cX5_way 52 = .ok (.aload_n 0, 1) := by decide +kernel
theorem dX5_way_53 : decode cX5_way 53 = .ok (.getfield 16, 3) := by decide +kernel
theorem dX5_way_56 : decode cX5_way 56 = .ok (.getfield 111, 3) := by decide +kernel
theorem dX5_way_59 : decode cX5_way 59 = .ok (.getfield 196, 3) := by decide +kernel
theorem dX5_way_62 : decode cX5_way 62 = .ok (.iload_n 1, 1) := by decide +kernel
theorem dX5_way_63 : decode cX5_way 63 = .ok (.iaload, 1) := by decide +kernel
theorem dX5_way_64 : decode cX5_way 64 = .ok (.ireturn, 1) := by decide +kernel
theorem dX5_way_65 : decode cX5_way 65 = .ok (.aload_n 0, 1) := by decide +kernel
theorem dX5_way_66 : decode cX5_way 66 = .ok (.getfield 16, 3) := by decide +kernel
theorem dX5_way_69 : decode cX5_way 69 = .ok (.getfield 111, 3) := by decide +kernel
theorem dX5_way_72 : decode cX5_way 72 = .ok (.getfield 200, 3) := by decide +kernel
theorem dX5_way_75 : decode cX5_way 75 = .ok (.iload_n 1, 1) := by decide +kernel
theorem dX5_way_76 : decode cX5_way 76 = .ok (.iaload, 1) := by decide +kernel
theorem dX5_way_77 : decode cX5_way 77 = .ok (.ireturn, 1) := by decide +kernel
theorem dX5_way_78 : decode cX5_way 78 = .ok (.aload_n 0, 1) := by decide +kernel
theorem dX5_way_79 : decode cX5_way 79 = .ok (.getfield 16, 3) := by decide +kernel
theorem dX5_way_82 : decode cX5_way 82 = .ok (.getfield 111, 3) := by decide +kernel
theorem dX5_way_85 : decode cX5_way 85 = .ok (.getfield 203, 3) := by decide +kernel
theorem dX5_way_88 : decode cX5_way 88 = .ok (.iload_n 1, 1) := by decide +kernel
theorem dX5_way_89 : decode cX5_way 89 = .ok (.iaload, 1) := by decide +kernel
theorem dX5_way_90 : decode cX5_way 90 = .ok (.ireturn, 1) := by decide +kernel
theorem dX5_way_91 : decode cX5_way 91 = .ok (.new 38, 3) := by decide +kernel
theorem dX5_way_94 : decode cX5_way 94 = .ok (.dup, 1) := by decide +kernel
theorem dX5_way_95 : decode cX5_way 95 = .ok (.ldc 206, 2) := by decide +kernel
theorem dX5_way_97 : decode cX5_way 97 = .ok (.invokespecial 42, 3) := by decide +kernel
theorem dX5_way_100 : decode cX5_way 100 = .ok (.athrow, 1) := by decide +kernel
theorem dX5_addRoom_0 : decode cX5_addRoom 0 = .ok (.iload_n 1, 1) := by decide +kernel
theorem dX5_addRoom_1 : decode cX5_addRoom 1 = .ok (.iconst 1, 1) := by decide +kernel
theorem dX5_addRoom_2 : decode cX5_addRoom 2 = .ok (.if_icmp .lt 31, 3) := by decide +kernel
theorem dX5_addRoom_5 : decode cX5_addRoom 5 = .ok (.iload_n 1, 1) := by decide +kernel
theorem dX5_addRoom_6 : decode cX5_addRoom 6 = .ok (.bipush 9, 2) := by decide +kernel
theorem dX5_addRoom_8 : decode cX5_addRoom 8 = .ok (.if_icmp .gt 25, 3) := by decide +kernel
theorem dX5_addRoom_11 : decode cX5_addRoom 11 = .ok (.iload_n 2, 1) := by decide +kernel
theorem dX5_addRoom_12 : decode cX5_addRoom 12 = .ok (.invokestatic 208, 3) := by decide +kernel
theorem dX5_addRoom_15 : decode cX5_addRoom 15 = .ok (.ifCond .eq 18, 3) := by decide +kernel
theorem dX5_addRoom_18 : decode cX5_addRoom 18 = .ok (.iload_n 3, 1) := by decide +kernel
theorem dX5_addRoom_19 : decode cX5_addRoom 19 = .ok (.invokestatic 211, 3) := by decide +kernel
theorem dX5_addRoom_22 : decode cX5_addRoom 22 = .ok (.ifCond .eq 11, 3) := by decide +kernel
theorem dX5_addRoom_25 : decode cX5_addRoom 25 = .ok (.iload 4, 2) := by decide +kernel
theorem dX5_addRoom_27 : decode cX5_addRoom 27 = .ok (.invokestatic 214, 3) := by decide +kernel
theorem dX5_addRoom_30 : decode cX5_addRoom 30 = .ok (.ifCond .ne 13, 3) := by decide +kernel
theorem dX5_addRoom_33 : decode cX5_addRoom 33 = .ok (.new 38, 3) := by decide +kernel
theorem dX5_addRoom_36 : decode cX5_addRoom 36 = .ok (.dup, 1) := by decide +kernel
theorem dX5_addRoom_37 : decode cX5_addRoom 37 = .ok (.ldc 217, 2) := by decide +kernel
theorem dX5_addRoom_39 : decode cX5_addRoom 39 = .ok (.invokespecial 42, 3) := by decide +kernel
theorem dX5_addRoom_42 : decode cX5_addRoom 42 = .ok (.athrow, 1) := by decide +kernel
theorem dX5_addRoom_43 : decode cX5_addRoom 43 = .ok (.aload_n 0, 1) := by decide +kernel
theorem dX5_addRoom_44 : decode cX5_addRoom 44 = .ok (.getfield 16, 3) := by decide +kernel
theorem dX5_addRoom_47 : decode cX5_addRoom 47 = .ok (.invokevirtual 219, 3) := by decide +kernel
theorem dX5_addRoom_50 : decode cX5_addRoom 50 = .ok (.ifCond .eq 13, 3) := by decide +kernel
theorem dX5_addRoom_53 : decode cX5_addRoom 53 = .ok (.new 49, 3) := by decide +kernel
theorem dX5_addRoom_56 : decode cX5_addRoom 56 = .ok (.dup, 1) := by decide +kernel
theorem dX5_addRoom_57 : decode cX5_addRoom 57 = .ok (.ldc 223, 2) := by decide +kernel
theorem dX5_addRoom_59 : decode cX5_addRoom 59 = .ok (.invokespecial 53, 3) := by decide +kernel
theorem dX5_addRoom_62 : decode cX5_addRoom 62 = .ok (.athrow, 1) := by decide +kernel
theorem dX5_addRoom_63 : decode cX5_addRoom 63 = .ok (.aload_n 0, 1) := by decide +kernel
theorem dX5_addRoom_64 : decode cX5_addRoom 64 = .ok (.getfield 26, 3) := by decide +kernel
theorem dX5_addRoom_67 : decode cX5_addRoom 67 = .ok (.aload_n 0, 1) := by decide +kernel
theorem dX5_addRoom_68 : decode cX5_addRoom 68 = .ok (.getfield 16, 3) := by decide +kernel
theorem dX5_addRoom_71 : decode cX5_addRoom 71 = .ok (.invokevirtual 225, 3) := by decide +kernel
theorem dX5_addRoom_74 : decode cX5_addRoom 74 = .ok (.aload_n 0, 1) := by decide +kernel
theorem dX5_addRoom_75 : decode cX5_addRoom 75 = .ok (.getfield 16, 3) := by decide +kernel
theorem dX5_addRoom_78 : decode cX5_addRoom 78 = .ok (.iload_n 1, 1) := by decide +kernel
theorem dX5_addRoom_79 : decode cX5_addRoom 79 = .ok (.iload_n 2, 1) := by decide +kernel
theorem dX5_addRoom_80 : decode cX5_addRoom 80 = .ok (.iload_n 3, 1) := by decide +kernel
theorem dX5_addRoom_81 : decode cX5_addRoom 81 = .ok (.iload 4, 2) := by decide +kernel
theorem dX5_addRoom_83 : decode cX5_addRoom 83 = .ok (.invokevirtual 228, 3) := by decide +kernel
theorem dX5_addRoom_86 : decode cX5_addRoom 86 = .ok (.aload_n 0, 1) := by decide +kernel
theorem dX5_addRoom_87 : decode cX5_addRoom 87 = .ok (.getfield 16, 3) := by decide +kernel
theorem dX5_addRoom_90 : decode cX5_addRoom 90 = .ok (.getfield 76, 3) := by decide +kernel
theorem dX5_addRoom_93 : decode cX5_addRoom 93 = .ok (.iconst 1, 1) := by decide +kernel
theorem dX5_addRoom_94 : decode cX5_addRoom 94 = .ok (.isub, 1) := by decide +kernel
theorem dX5_addRoom_95 : decode cX5_addRoom 95 = .ok (.ireturn, 1) := by decide +kernel
theorem dX5_setRoom_0 : decode cX5_setRoom 0 = .ok (.aload_n 0, 1) := by decide +kernel
theorem dX5_setRoom_1 : decode cX5_setRoom 1 = .ok (.getfield 16, 3) := by decide +kernel
theorem dX5_setRoom_4 : decode cX5_setRoom 4 = .ok (.iload_n 1, 1) := by decide +kernel
theorem dX5_setRoom_5 : decode cX5_setRoom 5 = .ok (.invokevirtual 151, 3) := by decide +kernel
theorem dX5_setRoom_8 : decode cX5_setRoom 8 = .ok (.ifCond .ne 13, 3) := by decide +kernel
theorem dX5_setRoom_11 : decode cX5_setRoom 11 = .ok (.new 135, 3) := by decide +kernel
theorem dX5_setRoom_14 : decode cX5_setRoom 14 = .ok (.dup, 1) := by decide +kernel
theorem dX5_setRoom_15 : decode cX5_setRoom 15 = .ok (.ldc 154, 2) := by decide +kernel
theorem dX5_setRoom_17 : decode cX5_setRoom 17 = .ok (.invokespecial 139, 3) := by decide +kernel
theorem dX5_setRoom_20 : decode cX5_setRoom 20 = .ok (.athrow, 1) := by decide +kernel
theorem dX5_setRoom_21 : decode cX5_setRoom 21 = .ok (.iload_n 2, 1) := by decide +kernel
theorem dX5_setRoom_22 : decode cX5_setRoom 22 = .ok (.iload_n 3, 1) := by decide +kernel
theorem dX5_setRoom_23 : decode cX5_setRoom 23 = .ok (.invokestatic 232, 3) := by decide +kernel
theorem dX5_setRoom_26 : decode cX5_setRoom 26 = .ok (.ifCond .ne 13, 3) := by decide +kernel
theorem dX5_setRoom_29 : decode cX5_setRoom 29 = .ok (.new 38, 3) := by decide +kernel
theorem dX5_setRoom_32 : decode cX5_setRoom 32 = .ok (.dup, 1) := by decide +kernel
theorem dX5_setRoom_33 : decode cX5_setRoom 33 = .ok (.ldc 236, 2) := by decide +kernel
theorem dX5_setRoom_35 : decode cX5_setRoom 35 = .ok (.invokespecial 42, 3) := by decide +kernel
theorem dX5_setRoom_38 : decode cX5_setRoom 38 = .ok (.athrow, 1) := by decide +kernel
theorem dX5_setRoom_39 : decode cX5_setRoom 39 = .ok (.aload_n 0, 1) := by decide +kernel
theorem dX5_setRoom_40 : decode cX5_setRoom 40 = .ok (.getfield 26, 3) := by decide +kernel
theorem dX5_setRoom_43 : decode cX5_setRoom 43 = .ok (.aload_n 0, 1) := by decide +kernel
theorem dX5_setRoom_44 : decode cX5_setRoom 44 = .ok (.getfield 16, 3) := by decide +kernel
theorem dX5_setRoom_47 : decode cX5_setRoom 47 = .ok (.invokevirtual 225, 3) := by decide +kernel
theorem dX5_setRoom_50 : decode cX5_setRoom 50 = .ok (.aload_n 0, 1) := by decide +kernel
theorem dX5_setRoom_51 : decode cX5_setRoom 51 = .ok (.getfield 16, 3) := by decide +kernel
theorem dX5_setRoom_54 : decode cX5_setRoom 54 = .ok (.getfield 156, 3) := by decide +kernel
theorem dX5_setRoom_57 : decode cX5_setRoom 57 = .ok (.iload_n 1, 1) := by decide +kernel
theorem dX5_setRoom_58 : decode cX5_setRoom 58 = .ok (.aaload, 1) := by decide +kernel
theorem dX5_setRoom_59 : decode cX5_setRoom 59 = .ok (.iload_n 2, 1) := by decide +kernel
theorem dX5_setRoom_60 : decode cX5_setRoom 60 = .ok (.iload_n 3, 1) := by decide +kernel
theorem dX5_setRoom_61 : decode cX5_setRoom 61 = .ok (.invokevirtual 238, 3) := by decide +kernel
theorem dX5_setRoom_64 : decode cX5_setRoom 64 = .ok (.ireturn, 1) := by decide +kernel
theorem dX5_window_0 : decode cX5_window 0 = .ok (.aload_n 0, 1) := by decide +kernel
theorem dX5_window_1 : decode cX5_window 1 = .ok (.getfield 16, 3) := by decide +kernel
theorem dX5_window_4 : decode cX5_window 4 = .ok (.iload_n 1, 1) := by decide +kernel
theorem dX5_window_5 : decode cX5_window 5 = .ok (.invokevirtual 151, 3) := by decide +kernel
theorem dX5_window_8 : decode cX5_window 8 = .ok (.ifCond .ne 13, 3) := by decide +kernel
theorem dX5_window_11 : decode cX5_window 11 = .ok (.new 135, 3) := by decide +kernel
theorem dX5_window_14 : decode cX5_window 14 = .ok (.dup, 1) := by decide +kernel
theorem dX5_window_15 : decode cX5_window 15 = .ok (.ldc 154, 2) := by decide +kernel
theorem dX5_window_17 : decode cX5_window 17 = .ok (.invokespecial 139, 3) := by decide +kernel
theorem dX5_window_20 : decode cX5_window 20 = .ok (.athrow, 1) := by decide +kernel
theorem dX5_window_21 : decode cX5_window 21 = .ok (.aload_n 0, 1) := by decide +kernel
theorem dX5_window_22 : decode cX5_window 22 = .ok (.getfield 26, 3) := by decide +kernel
theorem dX5_window_25 : decode cX5_window 25 = .ok (.aload_n 0, 1) := by decide +kernel
theorem dX5_window_26 : decode cX5_window 26 = .ok (.getfield 16, 3) := by decide +kernel
theorem dX5_window_29 : decode cX5_window 29 = .ok (.invokevirtual 225, 3) := by decide +kernel
theorem dX5_window_32 : decode cX5_window 32 = .ok (.aload_n 0, 1) := by decide +kernel
theorem dX5_window_33 : decode cX5_window 33 = .ok (.getfield 16, 3) := by decide +kernel
theorem dX5_window_36 : decode cX5_window 36 = .ok (.getfield 156, 3) := by decide +kernel
theorem dX5_window_39 : decode cX5_window 39 = .ok (.iload_n 1, 1) := by decide +kernel
theorem dX5_window_40 : decode cX5_window 40 = .ok (.aaload, 1) := by decide +kernel
theorem dX5_window_41 : decode cX5_window 41 = .ok (.iload_n 2, 1) := by decide +kernel
theorem dX5_window_42 : decode cX5_window 42 = .ok (.putfield 171, 3) := by decide +kernel
theorem dX5_window_45 : decode cX5_window 45 = .ok (.aload_n 0, 1) := by decide +kernel
theorem dX5_window_46 : decode cX5_window 46 = .ok (.getfield 16, 3) := by decide +kernel
theorem dX5_window_49 : decode cX5_window 49 = .ok (.invokevirtual 241, 3) := by decide +kernel
theorem dX5_window_52 : decode cX5_window 52 = .ok (.ireturn, 1) := by decide +kernel
theorem dX5_set_0 : decode cX5_set 0 = .ok (.iload_n 1, 1) := by decide +kernel
theorem dX5_set_1 : decode cX5_set 1 = .ok (.iload_n 2, 1) := by decide +kernel
theorem dX5_set_2 : decode cX5_set 2 = .ok (.invokestatic 244, 3) := by decide +kernel
theorem dX5_set_5 : decode cX5_set 5 = .ok (.ifCond .ne 13, 3) := by decide +kernel
theorem dX5_set_8 : decode cX5_set 8 = .ok (.new 38, 3) := by decide +kernel
theorem dX5_set_11 : decode cX5_set 11 = .ok (.dup, 1) := by decide +kernel
theorem dX5_set_12 : decode cX5_set 12 = .ok (.ldc 247, 2) := by decide +kernel
theorem dX5_set_14 : decode cX5_set 14 = .ok (.invokespecial 42, 3) := by decide +kernel
theorem dX5_set_17 : decode cX5_set 17 = .ok (.athrow, 1) := by decide +kernel
theorem dX5_set_18 : decode cX5_set 18 = .ok (.aload_n 0, 1) := by decide +kernel
theorem dX5_set_19 : decode cX5_set 19 = .ok (.getfield 26, 3) := by decide +kernel
theorem dX5_set_22 : decode cX5_set 22 = .ok (.aload_n 0, 1) := by decide +kernel
theorem dX5_set_23 : decode cX5_set 23 = .ok (.getfield 16, 3) := by decide +kernel
theorem dX5_set_26 : decode cX5_set 26 = .ok (.invokevirtual 225, 3) := by decide +kernel
theorem dX5_set_29 : decode cX5_set 29 = .ok (.aload_n 0, 1) := by decide +kernel
theorem dX5_set_30 : decode cX5_set 30 = .ok (.getfield 16, 3) := by decide +kernel
theorem dX5_set_33 : decode cX5_set 33 = .ok (.iload_n 1, 1) := by decide +kernel
theorem dX5_set_34 : decode cX5_set 34 = .ok (.invokevirtual 127, 3) := by decide +kernel
theorem dX5_set_37 : decode cX5_set 37 = .ok (.istore_n 3, 1) := by decide +kernel
theorem dX5_set_38 : decode cX5_set 38 = .ok (.aload_n 0, 1) := by decide +kernel
theorem dX5_set_39 : decode cX5_set 39 = .ok (.getfield 16, 3) := by decide +kernel
theorem dX5_set_42 : decode cX5_set 42 = .ok (.iload_n 1, 1) := by decide +kernel
theorem dX5_set_43 : decode cX5_set 43 = .ok (.iload_n 2, 1) := by decide +kernel
theorem dX5_set_44 : decode cX5_set 44 = .ok (.invokevirtual 249, 3) := by decide +kernel
theorem dX5_set_47 : decode cX5_set 47 = .ok (.iload_n 3, 1) := by decide +kernel
theorem dX5_set_48 : decode cX5_set 48 = .ok (.ireturn, 1) := by decide +kernel
theorem dX5_outside_0 : decode cX5_outside 0 = .ok (.iload_n 1, 1) := by decide +kernel
theorem dX5_outside_1 : decode cX5_outside 1 = .ok (.invokestatic 253, 3) := by decide +kernel
theorem dX5_outside_4 : decode cX5_outside 4 = .ok (.ifCond .ne 14, 3) := by decide +kernel
theorem dX5_outside_7 : decode cX5_outside 7 = .ok (.new 38, 3) := by decide +kernel
theorem dX5_outside_10 : decode cX5_outside 10 = .ok (.dup, 1) := by decide +kernel
theorem dX5_outside_11 : decode cX5_outside 11 = .ok (.ldc_w 256, 3) := by decide +kernel
theorem dX5_outside_14 : decode cX5_outside 14 = .ok (.invokespecial 42, 3) := by decide +kernel
theorem dX5_outside_17 : decode cX5_outside 17 = .ok (.athrow, 1) := by decide +kernel
theorem dX5_outside_18 : decode cX5_outside 18 = .ok (.aload_n 0, 1) := by decide +kernel
theorem dX5_outside_19 : decode cX5_outside 19 = .ok (.getfield 26, 3) := by decide +kernel
theorem dX5_outside_22 : decode cX5_outside 22 = .ok (.aload_n 0, 1) := by decide +kernel
theorem dX5_outside_23 : decode cX5_outside 23 = .ok (.getfield 16, 3) := by decide +kernel
theorem dX5_outside_26 : decode cX5_outside 26 = .ok (.invokevirtual 225, 3) := by decide +kernel
theorem dX5_outside_29 : decode cX5_outside 29 = .ok (.aload_n 0, 1) := by decide +kernel
theorem dX5_outside_30 : decode cX5_outside 30 = .ok (.getfield 16, 3) := by decide +kernel
theorem dX5_outside_33 : decode cX5_outside 33 = .ok (.getfield 82, 3) := by decide +kernel
theorem dX5_outside_36 : decode cX5_outside 36 = .ok (.istore_n 2, 1) := by decide +kernel
theorem dX5_outside_37 : decode cX5_outside 37 = .ok (.aload_n 0, 1) := by decide +kernel
theorem dX5_outside_38 : decode cX5_outside 38 = .ok (.getfield 16, 3) := by decide +kernel
theorem dX5_outside_41 : decode cX5_outside 41 = .ok (.iload_n 1, 1) := by decide +kernel
theorem dX5_outside_42 : decode cX5_outside 42 = .ok (.putfield 82, 3) := by decide +kernel
theorem dX5_outside_45 : decode cX5_outside 45 = .ok (.iload_n 2, 1) := by decide +kernel
theorem dX5_outside_46 : decode cX5_outside 46 = .ok (.ireturn, 1) := by decide +kernel
theorem dX5_pass_0 : decode cX5_pass 0 = .ok (.iload_n 1, 1) := by decide +kernel
theorem dX5_pass_1 : decode cX5_pass 1 = .ok (.invokestatic 258, 3) := by decide +kernel
theorem dX5_pass_4 : decode cX5_pass 4 = .ok (.ifCond .ne 14, 3) := by decide +kernel
theorem dX5_pass_7 : decode cX5_pass 7 = .ok (.new 38, 3) := by decide +kernel
theorem dX5_pass_10 : decode cX5_pass 10 = .ok (.dup, 1) := by decide +kernel
theorem dX5_pass_11 : decode cX5_pass 11 = .ok (.ldc_w 261, 3) := by decide +kernel
theorem dX5_pass_14 : decode cX5_pass 14 = .ok (.invokespecial 42, 3) := by decide +kernel
theorem dX5_pass_17 : decode cX5_pass 17 = .ok (.athrow, 1) := by decide +kernel
theorem dX5_pass_18 : decode cX5_pass 18 = .ok (.aload_n 0, 1) := by decide +kernel
theorem dX5_pass_19 : decode cX5_pass 19 = .ok (.getfield 26, 3) := by decide +kernel
theorem dX5_pass_22 : decode cX5_pass 22 = .ok (.aload_n 0, 1) := by decide +kernel
theorem dX5_pass_23 : decode cX5_pass 23 = .ok (.getfield 16, 3) := by decide +kernel
theorem dX5_pass_26 : decode cX5_pass 26 = .ok (.invokevirtual 225, 3) := by decide +kernel
theorem dX5_pass_29 : decode cX5_pass 29 = .ok (.aload_n 0, 1) := by decide +kernel
theorem dX5_pass_30 : decode cX5_pass 30 = .ok (.getfield 16, 3) := by decide +kernel
theorem dX5_pass_33 : decode cX5_pass 33 = .ok (.invokevirtual 120, 3) := by decide +kernel
theorem dX5_pass_36 : decode cX5_pass 36 = .ok (.istore_n 2, 1) := by decide +kernel
theorem dX5_pass_37 : decode cX5_pass 37 = .ok (.aload_n 0, 1) := by decide +kernel
theorem dX5_pass_38 : decode cX5_pass 38 = .ok (.getfield 16, 3) := by decide +kernel
theorem dX5_pass_41 : decode cX5_pass 41 = .ok (.iload_n 1, 1) := by decide +kernel
theorem dX5_pass_42 : decode cX5_pass 42 = .ok (.invokevirtual 263, 3) := by decide +kernel
theorem dX5_pass_45 : decode cX5_pass 45 = .ok (.aload_n 0, 1) := by decide +kernel
theorem dX5_pass_46 : decode cX5_pass 46 = .ok (.getfield 16, 3) := by decide +kernel
theorem dX5_pass_49 : decode cX5_pass 49 = .ok (.invokevirtual 120, 3) := by decide +kernel
theorem dX5_pass_52 : decode cX5_pass 52 = .ok (.iload_n 2, 1) := by decide +kernel
theorem dX5_pass_53 : decode cX5_pass 53 = .ok (.isub, 1) := by decide +kernel
theorem dX5_pass_54 : decode cX5_pass 54 = .ok (.ireturn, 1) := by decide +kernel
theorem dX5_undo_0 : decode cX5_undo 0 = .ok (.aload_n 0, 1) := by decide +kernel
theorem dX5_undo_1 : decode cX5_undo 1 = .ok (.getfield 26, 3) := by decide +kernel
theorem dX5_undo_4 : decode cX5_undo 4 = .ok (.invokevirtual 267, 3) := by decide +kernel
theorem dX5_undo_7 : decode cX5_undo 7 = .ok (.ifCond .eq 14, 3) := by decide +kernel
theorem dX5_undo_10 : decode cX5_undo 10 = .ok (.new 49, 3) := by decide +kernel
theorem dX5_undo_13 : decode cX5_undo 13 = .ok (.dup, 1) := by decide +kernel
theorem dX5_undo_14 : decode cX5_undo 14 = .ok (.ldc_w 270, 3) := by decide +kernel
theorem dX5_undo_17 : decode cX5_undo 17 = .ok (.invokespecial 53, 3) := by decide +kernel
theorem dX5_undo_20 : decode cX5_undo 20 = .ok (.athrow, 1) := by decide +kernel
theorem dX5_undo_21 : decode cX5_undo 21 = .ok (.aload_n 0, 1) := by decide +kernel
theorem dX5_undo_22 : decode cX5_undo 22 = .ok (.getfield 26, 3) := by decide +kernel
theorem dX5_undo_25 : decode cX5_undo 25 = .ok (.aload_n 0, 1) := by decide +kernel
theorem dX5_undo_26 : decode cX5_undo 26 = .ok (.getfield 16, 3) := by decide +kernel
theorem dX5_undo_29 : decode cX5_undo 29 = .ok (.invokevirtual 272, 3) := by decide +kernel
theorem dX5_undo_32 : decode cX5_undo 32 = .ok (.aload_n 0, 1) := by decide +kernel
theorem dX5_undo_33 : decode cX5_undo 33 = .ok (.getfield 26, 3) := by decide +kernel
theorem dX5_undo_36 : decode cX5_undo 36 = .ok (.getfield 275, 3) := by decide +kernel
theorem dX5_undo_39 : decode cX5_undo 39 = .ok (.ireturn, 1) := by decide +kernel
theorem dX5_ahead_0 : decode cX5_ahead 0 = .ok (.aload_n 0, 1) := by decide +kernel
theorem dX5_ahead_1 : decode cX5_ahead 1 = .ok (.getfield 16, 3) := by decide +kernel
theorem dX5_ahead_4 : decode cX5_ahead 4 = .ok (.iload_n 1, 1) := by decide +kernel
theorem dX5_ahead_5 : decode cX5_ahead 5 = .ok (.invokevirtual 131, 3) := by decide +kernel
theorem dX5_ahead_8 : decode cX5_ahead 8 = .ok (.ifCond .ne 13, 3) := by decide +kernel
theorem dX5_ahead_11 : decode cX5_ahead 11 = .ok (.new 135, 3) := by decide +kernel
theorem dX5_ahead_14 : decode cX5_ahead 14 = .ok (.dup, 1) := by decide +kernel
theorem dX5_ahead_15 : decode cX5_ahead 15 = .ok (.ldc 137, 2) := by decide +kernel
theorem dX5_ahead_17 : decode cX5_ahead 17 = .ok (.invokespecial 139, 3) := by decide +kernel
theorem dX5_ahead_20 : decode cX5_ahead 20 = .ok (.athrow, 1) := by decide +kernel
theorem dX5_ahead_21 : decode cX5_ahead 21 = .ok (.iload_n 2, 1) := by decide +kernel
theorem dX5_ahead_22 : decode cX5_ahead 22 = .ok (.ifCond .lt 10, 3) := by decide +kernel
theorem dX5_ahead_25 : decode cX5_ahead 25 = .ok (.iload_n 2, 1) := by decide +kernel
theorem dX5_ahead_26 : decode cX5_ahead 26 = .ok (.sipush 240, 3) := by decide +kernel
theorem dX5_ahead_29 : decode cX5_ahead 29 = .ok (.if_icmp .le 14, 3) := by decide +kernel
theorem dX5_ahead_32 : decode cX5_ahead 32 = .ok (.new 38, 3) := by decide +kernel
theorem dX5_ahead_35 : decode cX5_ahead 35 = .ok (.dup, 1) := by decide +kernel
theorem dX5_ahead_36 : decode cX5_ahead 36 = .ok (.ldc_w 276, 3) := by decide +kernel
theorem dX5_ahead_39 : decode cX5_ahead 39 = .ok (.invokespecial 42, 3) := by decide +kernel
theorem dX5_ahead_42 : decode cX5_ahead 42 = .ok (.athrow, 1) := by decide +kernel
theorem dX5_ahead_43 : decode cX5_ahead 43 = .ok (.aload_n 0, 1) := by decide +kernel
theorem dX5_ahead_44 : decode cX5_ahead 44 = .ok (.getfield 20, 3) := by decide +kernel
theorem dX5_ahead_47 : decode cX5_ahead 47 = .ok (.aload_n 0, 1) := by decide +kernel
theorem dX5_ahead_48 : decode cX5_ahead 48 = .ok (.getfield 16, 3) := by decide +kernel
theorem dX5_ahead_51 : decode cX5_ahead 51 = .ok (.invokevirtual 69, 3) := by decide +kernel
theorem dX5_ahead_54 : decode cX5_ahead 54 = .ok (.aload_n 0, 1) := by decide +kernel
theorem dX5_ahead_55 : decode cX5_ahead 55 = .ok (.getfield 20, 3) := by decide +kernel
theorem dX5_ahead_58 : decode cX5_ahead 58 = .ok (.iload_n 2, 1) := by decide +kernel
theorem dX5_ahead_59 : decode cX5_ahead 59 = .ok (.invokevirtual 263, 3) := by decide +kernel
theorem dX5_ahead_62 : decode cX5_ahead 62 = .ok (.aload_n 0, 1) := by decide +kernel
theorem dX5_ahead_63 : decode cX5_ahead 63 = .ok (.getfield 20, 3) := by decide +kernel
theorem dX5_ahead_66 : decode cX5_ahead 66 = .ok (.iload_n 1, 1) := by decide +kernel
theorem dX5_ahead_67 : decode cX5_ahead 67 = .ok (.invokevirtual 143, 3) := by decide +kernel
theorem dX5_ahead_70 : decode cX5_ahead 70 = .ok (.ireturn, 1) := by decide +kernel
theorem dX5_minutesTo_0 : decode cX5_minutesTo 0 = .ok (.aload_n 0, 1) := by decide +kernel
theorem dX5_minutesTo_1 : decode cX5_minutesTo 1 = .ok (.getfield 16, 3) := by decide +kernel
theorem dX5_minutesTo_4 : decode cX5_minutesTo 4 = .ok (.iload_n 1, 1) := by decide +kernel
theorem dX5_minutesTo_5 : decode cX5_minutesTo 5 = .ok (.invokevirtual 151, 3) := by decide +kernel
theorem dX5_minutesTo_8 : decode cX5_minutesTo 8 = .ok (.ifCond .ne 13, 3) := by decide +kernel
theorem dX5_minutesTo_11 : decode cX5_minutesTo 11 = .ok (.new 135, 3) := by decide +kernel
theorem dX5_minutesTo_14 : decode cX5_minutesTo 14 = .ok (.dup, 1) := by decide +kernel
theorem dX5_minutesTo_15 : decode cX5_minutesTo 15 = .ok (.ldc 154, 2) := by decide +kernel
theorem dX5_minutesTo_17 : decode cX5_minutesTo 17 = .ok (.invokespecial 139, 3) := by decide +kernel
theorem dX5_minutesTo_20 : decode cX5_minutesTo 20 = .ok (.athrow, 1) := by decide +kernel
theorem dX5_minutesTo_21 : decode cX5_minutesTo 21 = .ok (.aload_n 0, 1) := by decide +kernel
theorem dX5_minutesTo_22 : decode cX5_minutesTo 22 = .ok (.getfield 20, 3) := by decide +kernel
theorem dX5_minutesTo_25 : decode cX5_minutesTo 25 = .ok (.aload_n 0, 1) := by decide +kernel
theorem dX5_minutesTo_26 : decode cX5_minutesTo 26 = .ok (.getfield 16, 3) := by decide +kernel
theorem dX5_minutesTo_29 : decode cX5_minutesTo 29 = .ok (.invokevirtual 69, 3) := by decide +kernel
theorem dX5_minutesTo_32 : decode cX5_minutesTo 32 = .ok (.iconst 0, 1) := by decide +kernel
theorem dX5_minutesTo_33 : decode cX5_minutesTo 33 = .ok (.istore_n 2, 1) := by decide +kernel
theorem dX5_minutesTo_34 : decode cX5_minutesTo 34 = .ok (.iload_n 2, 1) := by decide +kernel
theorem dX5_minutesTo_35 : decode cX5_minutesTo 35 = .ok (.sipush 240, 3) := by decide +kernel
theorem dX5_minutesTo_38 : decode cX5_minutesTo 38 = .ok (.if_icmp .ge 30, 3) := by decide +kernel
theorem dX5_minutesTo_41 : decode cX5_minutesTo 41 = .ok (.aload_n 0, 1) := by decide +kernel
theorem dX5_minutesTo_42 : decode cX5_minutesTo 42 = .ok (.getfield 20, 3) := by decide +kernel
theorem dX5_minutesTo_45 : decode cX5_minutesTo 45 = .ok (.iload_n 1, 1) := by decide +kernel
theorem dX5_minutesTo_46 : decode cX5_minutesTo 46 = .ok (.invokevirtual 278, 3) := by decide +kernel
theorem dX5_minutesTo_49 : decode cX5_minutesTo 49 = .ok (.ifCond .eq 5, 3) := by decide +kernel
theorem dX5_minutesTo_52 : decode cX5_minutesTo 52 = .ok (.iload_n 2, 1) := by decide +kernel
theorem dX5_minutesTo_53 : decode cX5_minutesTo 53 = .ok (.ireturn, 1) := by decide +kernel
theorem dX5_minutesTo_54 : decode cX5_minutesTo 54 = .ok (.aload_n 0, 1) := by decide +kernel
theorem dX5_minutesTo_55 : decode cX5_minutesTo 55 = .ok (.getfield 20, 3) := by decide +kernel
theorem dX5_minutesTo_58 : decode cX5_minutesTo 58 = .ok (.iconst 1, 1) := by decide +kernel
theorem dX5_minutesTo_59 : decode cX5_minutesTo 59 = .ok (.invokevirtual 263, 3) := by decide +kernel
theorem dX5_minutesTo_62 : decode cX5_minutesTo 62 = .ok (.iinc 2 1, 3) := by decide +kernel
theorem dX5_minutesTo_65 : decode cX5_minutesTo 65 = .ok (.goto (-31), 3) := by decide +kernel
theorem dX5_minutesTo_68 : decode cX5_minutesTo 68 = .ok (.aload_n 0, 1) := by decide +kernel
theorem dX5_minutesTo_69 : decode cX5_minutesTo 69 = .ok (.getfield 20, 3) := by decide +kernel
theorem dX5_minutesTo_72 : decode cX5_minutesTo 72 = .ok (.iload_n 1, 1) := by decide +kernel
theorem dX5_minutesTo_73 : decode cX5_minutesTo 73 = .ok (.invokevirtual 278, 3) := by decide +kernel
theorem dX5_minutesTo_76 : decode cX5_minutesTo 76 = .ok (.ifCond .eq 9, 3) := by decide +kernel
theorem dX5_minutesTo_79 : decode cX5_minutesTo 79 = .ok (.sipush 240, 3) := by decide +kernel
theorem dX5_minutesTo_82 : decode cX5_minutesTo 82 = .ok (.goto 5, 3) := by decide +kernel
theorem dX5_minutesTo_85 : decode cX5_minutesTo 85 = .ok (.ldc 63, 2) := by decide +kernel
theorem dX5_minutesTo_87 : decode cX5_minutesTo 87 = .ok (.ireturn, 1) := by decide +kernel
theorem dX5_whyOff_0 : decode cX5_whyOff 0 = .ok (.aload_n 0, 1) := by decide +kernel
theorem dX5_whyOff_1 : decode cX5_whyOff 1 = .ok (.getfield 20, 3) := by decide +kernel
theorem dX5_whyOff_4 : decode cX5_whyOff 4 = .ok (.aload_n 0, 1) := by decide +kernel
theorem dX5_whyOff_5 : decode cX5_whyOff 5 = .ok (.getfield 16, 3) := by decide +kernel
theorem dX5_whyOff_8 : decode cX5_whyOff 8 = .ok (.invokevirtual 69, 3) := by decide +kernel
theorem dX5_whyOff_11 : decode cX5_whyOff 11 = .ok (.aload_n 0, 1) := by decide +kernel
theorem dX5_whyOff_12 : decode cX5_whyOff 12 = .ok (.getfield 20, 3) := by decide +kernel
theorem dX5_whyOff_15 : decode cX5_whyOff 15 = .ok (.invokevirtual 281, 3) := by decide +kernel
theorem dX5_whyOff_18 : decode cX5_whyOff 18 = .ok (.aload_n 0, 1) := by decide +kernel
theorem dX5_whyOff_19 : decode cX5_whyOff 19 = .ok (.getfield 20, 3) := by decide +kernel
theorem dX5_whyOff_22 : decode cX5_whyOff 22 = .ok (.invokevirtual 284, 3) := by decide +kernel
theorem dX5_whyOff_25 : decode cX5_whyOff 25 = .ok (.aload_n 0, 1) := by decide +kernel
theorem dX5_whyOff_26 : decode cX5_whyOff 26 = .ok (.getfield 20, 3) := by decide +kernel
theorem dX5_whyOff_29 : decode cX5_whyOff 29 = .ok (.getfield 85, 3) := by decide +kernel
theorem dX5_whyOff_32 : decode cX5_whyOff 32 = .ok (.ifCond .eq 5, 3) := by decide +kernel
theorem dX5_whyOff_35 : decode cX5_whyOff 35 = .ok (.iconst 0, 1) := by decide +kernel
theorem dX5_whyOff_36 : decode cX5_whyOff 36 = .ok (.ireturn, 1) := by decide +kernel
theorem dX5_whyOff_37 : decode cX5_whyOff 37 = .ok (.aload_n 0, 1) := by decide +kernel
theorem dX5_whyOff_38 : decode cX5_whyOff 38 = .ok (.getfield 20, 3) := by decide +kernel
theorem dX5_whyOff_41 : decode cX5_whyOff 41 = .ok (.getfield 95, 3) := by decide +kernel
theorem dX5_whyOff_44 : decode cX5_whyOff 44 = .ok (.ifCond .eq 5, 3) := by decide +kernel
theorem dX5_whyOff_47 : decode cX5_whyOff 47 = .ok (.iconst 1, 1) := by decide +kernel
theorem dX5_whyOff_48 : decode cX5_whyOff 48 = .ok (.ireturn, 1) := by decide +kernel
theorem dX5_whyOff_49 : decode cX5_whyOff 49 = .ok (.aload_n 0, 1) := by decide +kernel
theorem dX5_whyOff_50 : decode cX5_whyOff 50 = .ok (.getfield 20, 3) := by decide +kernel
theorem dX5_whyOff_53 : decode cX5_whyOff 53 = .ok (.iconst 0, 1) := by decide +kernel
theorem dX5_whyOff_54 : decode cX5_whyOff 54 = .ok (.invokevirtual 143, 3) := by decide +kernel
theorem dX5_whyOff_57 : decode cX5_whyOff 57 = .ok (.aload_n 0, 1) := by decide +kernel
theorem dX5_whyOff_58 : decode cX5_whyOff 58 = .ok (.getfield 20, 3) := by decide +kernel
theorem dX5_whyOff_61 : decode cX5_whyOff 61 = .ok (.iconst 1, 1) := by decide +kernel
theorem dX5_whyOff_62 : decode cX5_whyOff 62 = .ok (.invokevirtual 127, 3) := by decide +kernel
theorem dX5_whyOff_65 : decode cX5_whyOff 65 = .ok (.if_icmp .lt 5, 3) := by decide +kernel
theorem dX5_whyOff_68 : decode cX5_whyOff 68 = .ok (.iconst 2, 1) := by decide +kernel
theorem dX5_whyOff_69 : decode cX5_whyOff 69 = .ok (.ireturn, 1) := by decide +kernel
theorem dX5_whyOff_70 : decode cX5_whyOff 70 = .ok (.aload_n 0, 1) := by decide +kernel
theorem dX5_whyOff_71 : decode cX5_whyOff 71 = .ok (.getfield 20, 3) := by decide +kernel
theorem dX5_whyOff_74 : decode cX5_whyOff 74 = .ok (.iconst 0, 1) := by decide +kernel
theorem dX5_whyOff_75 : decode cX5_whyOff 75 = .ok (.invokevirtual 127, 3) := by decide +kernel
theorem dX5_whyOff_78 : decode cX5_whyOff 78 = .ok (.ifCond .ne 7, 3) := by decide +kernel
theorem dX5_whyOff_81 : decode cX5_whyOff 81 = .ok (.iconst 3, 1) := by decide +kernel
theorem dX5_whyOff_82 : decode cX5_whyOff 82 = .ok (.goto 4, 3) := by decide +kernel
theorem dX5_whyOff_85 : decode cX5_whyOff 85 = .ok (.iconst 4, 1) := by decide +kernel
theorem dX5_whyOff_86 : decode cX5_whyOff 86 = .ok (.ireturn, 1) := by decide +kernel
theorem dX5_whyShare_0 : decode cX5_whyShare 0 = .ok (.aload_n 0, 1) := by decide +kernel
theorem dX5_whyShare_1 : decode cX5_whyShare 1 = .ok (.getfield 20, 3) := by decide +kernel
theorem dX5_whyShare_4 : decode cX5_whyShare 4 = .ok (.aload_n 0, 1) := by decide +kernel
theorem dX5_whyShare_5 : decode cX5_whyShare 5 = .ok (.getfield 16, 3) := by decide +kernel
theorem dX5_whyShare_8 : decode cX5_whyShare 8 = .ok (.invokevirtual 69, 3) := by decide +kernel
theorem dX5_whyShare_11 : decode cX5_whyShare 11 = .ok (.aload_n 0, 1) := by decide +kernel
theorem dX5_whyShare_12 : decode cX5_whyShare 12 = .ok (.getfield 20, 3) := by decide +kernel
theorem dX5_whyShare_15 : decode cX5_whyShare 15 = .ok (.invokevirtual 281, 3) := by decide +kernel
theorem dX5_whyShare_18 : decode cX5_whyShare 18 = .ok (.aload_n 0, 1) := by decide +kernel
theorem dX5_whyShare_19 : decode cX5_whyShare 19 = .ok (.getfield 20, 3) := by decide +kernel
theorem dX5_whyShare_22 : decode cX5_whyShare 22 = .ok (.invokevirtual 284, 3) := by decide +kernel
theorem dX5_whyShare_25 : decode cX5_whyShare 25 = .ok (.aload_n 0, 1) := by decide +kernel
theorem dX5_whyShare_26 : decode cX5_whyShare 26 = .ok (.getfield 20, 3) := by decide +kernel
theorem dX5_whyShare_29 : decode cX5_whyShare 29 = .ok (.invokevirtual 287, 3) := by decide +kernel
theorem dX5_whyShare_32 : decode cX5_whyShare 32 = .ok (.aload_n 0, 1) := by decide +kernel
theorem dX5_whyShare_33 : decode cX5_whyShare 33 = .ok (.getfield 20, 3) := by decide +kernel
theorem dX5_whyShare_36 : decode cX5_whyShare 36 = .ok (.getfield 92, 3) := by decide +kernel
theorem dX5_whyShare_39 : decode cX5_whyShare 39 = .ok (.bipush 100, 2) := by decide +kernel
theorem dX5_whyShare_41 : decode cX5_whyShare 41 = .ok (.if_icmp .ne 5, 3) := by decide +kernel
theorem dX5_whyShare_44 : decode cX5_whyShare 44 = .ok (.iconst 0, 1) := by decide +kernel
theorem dX5_whyShare_45 : decode cX5_whyShare 45 = .ok (.ireturn, 1) := by decide +kernel
theorem dX5_whyShare_46 : decode cX5_whyShare 46 = .ok (.aload_n 0, 1) := by decide +kernel
theorem dX5_whyShare_47 : decode cX5_whyShare 47 = .ok (.getfield 20, 3) := by decide +kernel
theorem dX5_whyShare_50 : decode cX5_whyShare 50 = .ok (.getfield 95, 3) := by decide +kernel
theorem dX5_whyShare_53 : decode cX5_whyShare 53 = .ok (.ifCond .eq 5, 3) := by decide +kernel
theorem dX5_whyShare_56 : decode cX5_whyShare 56 = .ok (.iconst 1, 1) := by decide +kernel
theorem dX5_whyShare_57 : decode cX5_whyShare 57 = .ok (.ireturn, 1) := by decide +kernel
theorem dX5_whyShare_58 : decode cX5_whyShare 58 = .ok (.aload_n 0, 1) := by decide +kernel
theorem dX5_whyShare_59 : decode cX5_whyShare 59 = .ok (.getfield 20, 3) := by decide +kernel
theorem dX5_whyShare_62 : decode cX5_whyShare 62 = .ok (.invokevirtual 290, 3) := by decide +kernel
theorem dX5_whyShare_65 : decode cX5_whyShare 65 = .ok (.ifCond .ne 5, 3) := by decide +kernel
theorem dX5_whyShare_68 : decode cX5_whyShare 68 = .ok (.iconst 2, 1) := by decide +kernel
theorem dX5_whyShare_69 : decode cX5_whyShare 69 = .ok (.ireturn, 1) := by decide +kernel
theorem dX5_whyShare_70 : decode cX5_whyShare 70 = .ok (.aload_n 0, 1) := by decide +kernel
theorem dX5_whyShare_71 : decode cX5_whyShare 71 = .ok (.getfield 20, 3) := by decide +kernel
theorem dX5_whyShare_74 : decode cX5_whyShare 74 = .ok (.invokevirtual 293, 3) := by decide +kernel
theorem dX5_whyShare_77 : decode cX5_whyShare 77 = .ok (.ifCond .eq 17, 3) := by decide +kernel
theorem dX5_whyShare_80 : decode cX5_whyShare 80 = .ok (.aload_n 0, 1) := by decide +kernel
theorem dX5_whyShare_81 : decode cX5_whyShare 81 = .ok (.getfield 20, 3) := by decide +kernel
theorem dX5_whyShare_84 : decode cX5_whyShare 84 = .ok (.invokevirtual 290, 3) := by decide +kernel
theorem dX5_whyShare_87 : decode cX5_whyShare 87 = .ok (.bipush 20, 2) := by decide +kernel
theorem dX5_whyShare_89 : decode cX5_whyShare 89 = .ok (.if_icmp .le 5, 3) := by decide +kernel
theorem dX5_whyShare_92 : decode cX5_whyShare 92 = .ok (.iconst 3, 1) := by decide +kernel
theorem dX5_whyShare_93 : decode cX5_whyShare 93 = .ok (.ireturn, 1) := by decide +kernel
theorem dX5_whyShare_94 : decode cX5_whyShare 94 = .ok (.aload_n 0, 1) := by decide +kernel
theorem dX5_whyShare_95 : decode cX5_whyShare 95 = .ok (.getfield 20, 3) := by decide +kernel
theorem dX5_whyShare_98 : decode cX5_whyShare 98 = .ok (.invokevirtual 293, 3) := by decide +kernel
theorem dX5_whyShare_101 : decode cX5_whyShare 101 = .ok (.ifCond .ne 15, 3) := by decide +kernel
theorem dX5_whyShare_104 : decode cX5_whyShare 104 = .ok (.aload_n 0, 1) := by decide +kernel
theorem dX5_whyShare_105 : decode cX5_whyShare 105 = .ok (.getfield 20, 3) := by decide +kernel
theorem dX5_whyShare_108 : decode cX5_whyShare 108 = .ok (.invokevirtual 290, 3) := by decide +kernel
theorem dX5_whyShare_111 : decode cX5_whyShare 111 = .ok (.bipush 100, 2) := by decide +kernel
theorem dX5_whyShare_113 : decode cX5_whyShare 113 = .ok (.if_icmp .ge 7, 3) := by decide +kernel
theorem dX5_whyShare_116 : decode cX5_whyShare 116 = .ok (.iconst 4, 1) := by decide +kernel
theorem dX5_whyShare_117 : decode cX5_whyShare 117 = .ok (.goto 4, 3) := by decide +kernel
theorem dX5_whyShare_120 : decode cX5_whyShare 120 = .ok (.iconst 5, 1) := by decide +kernel
theorem dX5_whyShare_121 : decode cX5_whyShare 121 = .ok (.ireturn, 1) := by decide +kernel
theorem dX5_bestSlope_0 : decode cX5_bestSlope 0 = .ok (.iload_n 1, 1) := by decide +kernel
theorem dX5_bestSlope_1 : decode cX5_bestSlope 1 = .ok (.iconst 1, 1) := by decide +kernel
theorem dX5_bestSlope_2 : decode cX5_bestSlope 2 = .ok (.if_icmp .lt 10, 3) := by decide +kernel
theorem dX5_bestSlope_5 : decode cX5_bestSlope 5 = .ok (.iload_n 1, 1) := by decide +kernel
theorem dX5_bestSlope_6 : decode cX5_bestSlope 6 = .ok (.sipush 240, 3) := by decide +kernel
theorem dX5_bestSlope_9 : decode cX5_bestSlope 9 = .ok (.if_icmp .le 14, 3) := by decide +kernel
theorem dX5_bestSlope_12 : decode cX5_bestSlope 12 = .ok (.new 38, 3) := by decide +kernel
theorem dX5_bestSlope_15 : decode cX5_bestSlope 15 = .ok (.dup, 1) := by decide +kernel
theorem dX5_bestSlope_16 : decode cX5_bestSlope 16 = .ok (.ldc_w 296, 3) := by decide +kernel
theorem dX5_bestSlope_19 : decode cX5_bestSlope 19 = .ok (.invokespecial 42, 3) := by decide +kernel
theorem dX5_bestSlope_22 : decode cX5_bestSlope 22 = .ok (.athrow, 1) := by decide +kernel
theorem dX5_bestSlope_23 : decode cX5_bestSlope 23 = .ok (.aload_n 0, 1) := by decide +kernel
theorem dX5_bestSlope_24 : decode cX5_bestSlope 24 = .ok (.getfield 16, 3) := by decide +kernel
theorem dX5_bestSlope_27 : decode cX5_bestSlope 27 = .ok (.getfield 76, 3) := by decide +kernel
theorem dX5_bestSlope_30 : decode cX5_bestSlope 30 = .ok (.ifCond .ne 6, 3) := by decide +kernel
theorem dX5_bestSlope_33 : decode cX5_bestSlope 33 = .ok (.ldc 63, 2) := by decide +kernel
theorem dX5_bestSlope_35 : decode cX5_bestSlope 35 = .ok (.ireturn, 1) := by decide +kernel
theorem dX5_bestSlope_36 : decode cX5_bestSlope 36 = .ok (.ldc 63, 2) := by decide +kernel
theorem dX5_bestSlope_38 : decode cX5_bestSlope 38 = .ok (.istore_n 2, 1) := by decide +kernel
theorem dX5_bestSlope_39 : decode cX5_bestSlope 39 = .ok (.iconst (-1), 1) := by decide +kernel
theorem dX5_bestSlope_40 : decode cX5_bestSlope 40 = .ok (.istore_n 3, 1) := by decide +kernel
theorem dX5_bestSlope_41 : decode cX5_bestSlope 41 = .ok (.iconst 4, 1) := by decide +kernel
theorem dX5_bestSlope_42 : decode cX5_bestSlope 42 = .ok (.invokestatic 298, 3) := by decide +kernel
theorem dX5_bestSlope_45 : decode cX5_bestSlope 45 = .ok (.istore 4, 2) := by decide +kernel
theorem dX5_bestSlope_47 : decode cX5_bestSlope 47 = .ok (.iload 4, 2) := by decide +kernel
theorem dX5_bestSlope_49 : decode cX5_bestSlope 49 = .ok (.iconst 4, 1) := by decide +kernel
theorem dX5_bestSlope_50 : decode cX5_bestSlope 50 = .ok (.invokestatic 301, 3) := by decide +kernel
theorem dX5_bestSlope_53 : decode cX5_bestSlope 53 = .ok (.if_icmp .gt 59, 3) := by decide +kernel
theorem dX5_bestSlope_56 : decode cX5_bestSlope 56 = .ok (.aload_n 0, 1) := by decide +kernel
theorem dX5_bestSlope_57 : decode cX5_bestSlope 57 = .ok (.getfield 20, 3) := by decide +kernel
theorem dX5_bestSlope_60 : decode cX5_bestSlope 60 = .ok (.aload_n 0, 1) := by decide +kernel
theorem dX5_bestSlope_61 : decode cX5_bestSlope 61 = .ok (.getfield 16, 3) := by decide +kernel
theorem dX5_bestSlope_64 : decode cX5_bestSlope 64 = .ok (.invokevirtual 69, 3) := by decide +kernel
theorem dX5_bestSlope_67 : decode cX5_bestSlope 67 = .ok (.aload_n 0, 1) := by decide +kernel
theorem dX5_bestSlope_68 : decode cX5_bestSlope 68 = .ok (.getfield 20, 3) := by decide +kernel
theorem dX5_bestSlope_71 : decode cX5_bestSlope 71 = .ok (.iconst 4, 1) := by decide +kernel
theorem dX5_bestSlope_72 : decode cX5_bestSlope 72 = .ok (.iload 4, 2) := by decide +kernel
theorem dX5_bestSlope_74 : decode cX5_bestSlope 74 = .ok (.invokevirtual 249, 3) := by decide +kernel
theorem dX5_bestSlope_77 : decode cX5_bestSlope 77 = .ok (.aload_n 0, 1) := by decide +kernel
theorem dX5_bestSlope_78 : decode cX5_bestSlope 78 = .ok (.getfield 20, 3) := by decide +kernel
theorem dX5_bestSlope_81 : decode cX5_bestSlope 81 = .ok (.iload_n 1, 1) := by decide +kernel
theorem dX5_bestSlope_82 : decode cX5_bestSlope 82 = .ok (.invokevirtual 263, 3) := by decide +kernel
theorem dX5_bestSlope_85 : decode cX5_bestSlope 85 = .ok (.aload_n 0, 1) := by decide +kernel
theorem dX5_bestSlope_86 : decode cX5_bestSlope 86 = .ok (.getfield 20, 3) := by decide +kernel
theorem dX5_bestSlope_89 : decode cX5_bestSlope 89 = .ok (.invokevirtual 120, 3) := by decide +kernel
theorem dX5_bestSlope_92 : decode cX5_bestSlope 92 = .ok (.istore 5, 2) := by decide +kernel
theorem dX5_bestSlope_94 : decode cX5_bestSlope 94 = .ok (.iload 5, 2) := by decide +kernel
theorem dX5_bestSlope_96 : decode cX5_bestSlope 96 = .ok (.iload_n 3, 1) := by decide +kernel
theorem dX5_bestSlope_97 : decode cX5_bestSlope 97 = .ok (.if_icmp .le 9, 3) := by decide +kernel
theorem dX5_bestSlope_100 : decode cX5_bestSlope 100 = .ok (.iload 5, 2) := by decide +kernel
theorem dX5_bestSlope_102 : decode cX5_bestSlope 102 = .ok (.istore_n 3, 1) := by decide +kernel
theorem dX5_bestSlope_103 : decode cX5_bestSlope 103 = .ok (.iload 4, 2) := by decide +kernel
theorem dX5_bestSlope_105 : decode cX5_bestSlope 105 = .ok (.istore_n 2, 1) := by decide +kernel
theorem dX5_bestSlope_106 : decode cX5_bestSlope 106 = .ok (.iinc 4 1, 3) := by decide +kernel
theorem dX5_bestSlope_109 : decode cX5_bestSlope 109 = .ok (.goto (-62), 3) := by decide +kernel
theorem dX5_bestSlope_112 : decode cX5_bestSlope 112 = .ok (.iload_n 2, 1) := by decide +kernel
theorem dX5_bestSlope_113 : decode cX5_bestSlope 113 = .ok (.ireturn, 1) := by decide +kernel
theorem dX5_leastPower_0 : decode cX5_leastPower 0 = .ok (.iload_n 1, 1) := by decide +kernel
theorem dX5_leastPower_1 : decode cX5_leastPower 1 = .ok (.ifCond .lt 10, 3) := by decide +kernel
theorem dX5_leastPower_4 : decode cX5_leastPower 4 = .ok (.iload_n 1, 1) := by decide +kernel
theorem dX5_leastPower_5 : decode cX5_leastPower 5 = .ok (.sipush 240, 3) := by decide +kernel
theorem dX5_leastPower_8 : decode cX5_leastPower 8 = .ok (.if_icmp .le 14, 3) := by decide +kernel
theorem dX5_leastPower_11 : decode cX5_leastPower 11 = .ok (.new 38, 3) := by decide +kernel
theorem dX5_leastPower_14 : decode cX5_leastPower 14 = .ok (.dup, 1) := by decide +kernel
theorem dX5_leastPower_15 : decode cX5_leastPower 15 = .ok (.ldc_w 276, 3) := by decide +kernel
theorem dX5_leastPower_18 : decode cX5_leastPower 18 = .ok (.invokespecial 42, 3) := by decide +kernel
theorem dX5_leastPower_21 : decode cX5_leastPower 21 = .ok (.athrow, 1) := by decide +kernel
theorem dX5_leastPower_22 : decode cX5_leastPower 22 = .ok (.iconst 0, 1) := by decide +kernel
theorem dX5_leastPower_23 : decode cX5_leastPower 23 = .ok (.invokestatic 298, 3) := by decide +kernel
theorem dX5_leastPower_26 : decode cX5_leastPower 26 = .ok (.istore_n 2, 1) := by decide +kernel
theorem dX5_leastPower_27 : decode cX5_leastPower 27 = .ok (.iload_n 2, 1) := by decide +kernel
theorem dX5_leastPower_28 : decode cX5_leastPower 28 = .ok (.iconst 0, 1) := by decide +kernel
theorem dX5_leastPower_29 : decode cX5_leastPower 29 = .ok (.invokestatic 301, 3) := by decide +kernel
theorem dX5_leastPower_32 : decode cX5_leastPower 32 = .ok (.if_icmp .gt 42, 3) := by decide +kernel
theorem dX5_leastPower_35 : decode cX5_leastPower 35 = .ok (.aload_n 0, 1) := by decide +kernel
theorem dX5_leastPower_36 : decode cX5_leastPower 36 = .ok (.getfield 20, 3) := by decide +kernel
theorem dX5_leastPower_39 : decode cX5_leastPower 39 = .ok (.aload_n 0, 1) := by decide +kernel
theorem dX5_leastPower_40 : decode cX5_leastPower 40 = .ok (.getfield 16, 3) := by decide +kernel
theorem dX5_leastPower_43 : decode cX5_leastPower 43 = .ok (.invokevirtual 69, 3) := by decide +kernel
theorem dX5_leastPower_46 : decode cX5_leastPower 46 = .ok (.aload_n 0, 1) := by decide +kernel
theorem dX5_leastPower_47 : decode cX5_leastPower 47 = .ok (.getfield 20, 3) := by decide +kernel
theorem dX5_leastPower_50 : decode cX5_leastPower 50 = .ok (.iconst 0, 1) := by decide +kernel
theorem dX5_leastPower_51 : decode cX5_leastPower 51 = .ok (.iload_n 2, 1) := by decide +kernel
theorem dX5_leastPower_52 : decode cX5_leastPower 52 = .ok (.invokevirtual 249, 3) := by decide +kernel
theorem dX5_leastPower_55 : decode cX5_leastPower 55 = .ok (.aload_n 0, 1) := by decide +kernel
theorem dX5_leastPower_56 : decode cX5_leastPower 56 = .ok (.getfield 20, 3) := by decide +kernel
theorem dX5_leastPower_59 : decode cX5_leastPower 59 = .ok (.iload_n 1, 1) := by decide +kernel
theorem dX5_leastPower_60 : decode cX5_leastPower 60 = .ok (.invokestatic 304, 3) := by decide +kernel
theorem dX5_leastPower_63 : decode cX5_leastPower 63 = .ok (.ifCond .eq 5, 3) := by decide +kernel
theorem dX5_leastPower_66 : decode cX5_leastPower 66 = .ok (.iload_n 2, 1) := by decide +kernel
theorem dX5_leastPower_67 : decode cX5_leastPower 67 = .ok (.ireturn, 1) := by decide +kernel
theorem dX5_leastPower_68 : decode cX5_leastPower 68 = .ok (.iinc 2 10, 3) := by decide +kernel
theorem dX5_leastPower_71 : decode cX5_leastPower 71 = .ok (.goto (-44), 3) := by decide +kernel
theorem dX5_leastPower_74 : decode cX5_leastPower 74 = .ok (.ldc 63, 2) := by decide +kernel
theorem dX5_leastPower_76 : decode cX5_leastPower 76 = .ok (.ireturn, 1) := by decide +kernel
theorem dX5_heatFor_0 : decode cX5_heatFor 0 = .ok (.iload_n 1, 1) := by decide +kernel
theorem dX5_heatFor_1 : decode cX5_heatFor 1 = .ok (.ifCond .lt 10, 3) := by decide +kernel
theorem dX5_heatFor_4 : decode cX5_heatFor 4 = .ok (.iload_n 1, 1) := by decide +kernel
theorem dX5_heatFor_5 : decode cX5_heatFor 5 = .ok (.sipush 240, 3) := by decide +kernel
theorem dX5_heatFor_8 : decode cX5_heatFor 8 = .ok (.if_icmp .le 14, 3) := by decide +kernel
theorem dX5_heatFor_11 : decode cX5_heatFor 11 = .ok (.new 38, 3) := by decide +kernel
theorem dX5_heatFor_14 : decode cX5_heatFor 14 = .ok (.dup, 1) := by decide +kernel
theorem dX5_heatFor_15 : decode cX5_heatFor 15 = .ok (.ldc_w 276, 3) := by decide +kernel
theorem dX5_heatFor_18 : decode cX5_heatFor 18 = .ok (.invokespecial 42, 3) := by decide +kernel
theorem dX5_heatFor_21 : decode cX5_heatFor 21 = .ok (.athrow, 1) := by decide +kernel
theorem dX5_heatFor_22 : decode cX5_heatFor 22 = .ok (.aload_n 0, 1) := by decide +kernel
theorem dX5_heatFor_23 : decode cX5_heatFor 23 = .ok (.getfield 20, 3) := by decide +kernel
theorem dX5_heatFor_26 : decode cX5_heatFor 26 = .ok (.aload_n 0, 1) := by decide +kernel
theorem dX5_heatFor_27 : decode cX5_heatFor 27 = .ok (.getfield 16, 3) := by decide +kernel
theorem dX5_heatFor_30 : decode cX5_heatFor 30 = .ok (.invokevirtual 69, 3) := by decide +kernel
theorem dX5_heatFor_33 : decode cX5_heatFor 33 = .ok (.aload_n 0, 1) := by decide +kernel
theorem dX5_heatFor_34 : decode cX5_heatFor 34 = .ok (.getfield 20, 3) := by decide +kernel
theorem dX5_heatFor_37 : decode cX5_heatFor 37 = .ok (.iload_n 1, 1) := by decide +kernel
theorem dX5_heatFor_38 : decode cX5_heatFor 38 = .ok (.invokevirtual 263, 3) := by decide +kernel
theorem dX5_heatFor_41 : decode cX5_heatFor 41 = .ok (.aload_n 0, 1) := by decide +kernel
theorem dX5_heatFor_42 : decode cX5_heatFor 42 = .ok (.getfield 20, 3) := by decide +kernel
theorem dX5_heatFor_45 : decode cX5_heatFor 45 = .ok (.invokevirtual 308, 3) := by decide +kernel
theorem dX5_heatFor_48 : decode cX5_heatFor 48 = .ok (.aload_n 0, 1) := by decide +kernel
theorem dX5_heatFor_49 : decode cX5_heatFor 49 = .ok (.getfield 16, 3) := by decide +kernel
theorem dX5_heatFor_52 : decode cX5_heatFor 52 = .ok (.invokevirtual 308, 3) := by decide +kernel
theorem dX5_heatFor_55 : decode cX5_heatFor 55 = .ok (.isub, 1) := by decide +kernel
theorem dX5_heatFor_56 : decode cX5_heatFor 56 = .ok (.ireturn, 1) := by decide +kernel
theorem dX5_runScript_0 : decode cX5_runScript 0 = .ok (.iload_n 1, 1) := by decide +kernel
theorem dX5_runScript_1 : decode cX5_runScript 1 = .ok (.iconst 1, 1) := by decide +kernel
theorem dX5_runScript_2 : decode cX5_runScript 2 = .ok (.if_icmp .lt 8, 3) := by decide +kernel
theorem dX5_runScript_5 : decode cX5_runScript 5 = .ok (.iload_n 1, 1) := by decide +kernel
theorem dX5_runScript_6 : decode cX5_runScript 6 = .ok (.iconst 4, 1) := by decide +kernel
theorem dX5_runScript_7 : decode cX5_runScript 7 = .ok (.if_icmp .le 14, 3) := by decide +kernel
theorem dX5_runScript_10 : decode cX5_runScript 10 = .ok (.new 38, 3) := by decide +kernel
theorem dX5_runScript_13 : decode cX5_runScript 13 = .ok (.dup, 1) := by decide +kernel
theorem dX5_runScript_14 : decode cX5_runScript 14 = .ok (.ldc_w 311, 3) := by decide +kernel
theorem dX5_runScript_17 : decode cX5_runScript 17 = .ok (.invokespecial 42, 3) := by decide +kernel
theorem dX5_runScript_20 : decode cX5_runScript 20 = .ok (.athrow, 1) := by decide +kernel
theorem dX5_runScript_21 : decode cX5_runScript 21 = .ok (.lload_n 2, 1) := by decide +kernel
theorem dX5_runScript_22 : decode cX5_runScript 22 = .ok (.lconst 0, 1) := by decide +kernel
theorem dX5_runScript_23 : decode cX5_runScript 23 = .ok (.lcmp, 1) := by decide +kernel
theorem dX5_runScript_24 : decode cX5_runScript 24 = .ok (.ifCond .lt 12, 3) := by decide +kernel
theorem dX5_runScript_27 : decode cX5_runScript 27 = .ok (.lload_n 2, 1) := by decide +kernel
theorem dX5_runScript_28 : decode cX5_runScript 28 = .ok (.iload_n 1, 1) := by decide +kernel
theorem dX5_runScript_29 : decode cX5_runScript 29 = .ok (.invokestatic 313, 3) := by decide +kernel
theorem dX5_runScript_32 : decode cX5_runScript 32 = .ok (.lcmp, 1) := by decide +kernel
theorem dX5_runScript_33 : decode cX5_runScript 33 = .ok (.ifCond .le 14, 3) := by decide +kernel
theorem dX5_runScript_36 : decode cX5_runScript 36 = .ok (.new 38, 3) := by decide +kernel
theorem dX5_runScript_39 : decode cX5_runScript 39 = .ok (.dup, 1) := by decide +kernel
theorem dX5_runScript_40 : decode cX5_runScript 40 = .ok (.ldc_w 317, 3) := by decide +kernel
theorem dX5_runScript_43 : decode cX5_runScript 43 = .ok (.invokespecial 42, 3) := by decide +kernel
theorem dX5_runScript_46 : decode cX5_runScript 46 = .ok (.athrow, 1) := by decide +kernel
theorem dX5_runScript_47 : decode cX5_runScript 47 = .ok (.aload_n 0, 1) := by decide +kernel
theorem dX5_runScript_48 : decode cX5_runScript 48 = .ok (.getfield 20, 3) := by decide +kernel
theorem dX5_runScript_51 : decode cX5_runScript 51 = .ok (.aload_n 0, 1) := by decide +kernel
theorem dX5_runScript_52 : decode cX5_runScript 52 = .ok (.getfield 16, 3) := by decide +kernel
theorem dX5_runScript_55 : decode cX5_runScript 55 = .ok (.invokevirtual 69, 3) := by decide +kernel
theorem dX5_runScript_58 : decode cX5_runScript 58 = .ok (.iconst 0, 1) := by decide +kernel
theorem dX5_runScript_59 : decode cX5_runScript 59 = .ok (.istore 4, 2) := by decide +kernel
theorem dX5_runScript_61 : decode cX5_runScript 61 = .ok (.iload 4, 2) := by decide +kernel
theorem dX5_runScript_63 : decode cX5_runScript 63 = .ok (.iload_n 1, 1) := by decide +kernel
theorem dX5_runScript_64 : decode cX5_runScript 64 = .ok (.if_icmp .ge 29, 3) := by decide +kernel
theorem dX5_runScript_67 : decode cX5_runScript 67 = .ok (.aload_n 0, 1) := by decide +kernel
theorem dX5_runScript_68 : decode cX5_runScript 68 = .ok (.getfield 20, 3) := by decide +kernel
theorem dX5_runScript_71 : decode cX5_runScript 71 = .ok (.iload_n 1, 1) := by decide +kernel
theorem dX5_runScript_72 : decode cX5_runScript 72 = .ok (.lload_n 2, 1) := by decide +kernel
theorem dX5_runScript_73 : decode cX5_runScript 73 = .ok (.iload 4, 2) := by decide +kernel
theorem dX5_runScript_75 : decode cX5_runScript 75 = .ok (.invokestatic 319, 3) := by decide +kernel
theorem dX5_runScript_78 : decode cX5_runScript 78 = .ok (.invokestatic 323, 3) := by decide +kernel
theorem dX5_runScript_81 : decode cX5_runScript 81 = .ok (.ifCond .ne 6, 3) := by decide +kernel
theorem dX5_runScript_84 : decode cX5_runScript 84 = .ok (.iload 4, 2) := by decide +kernel
theorem dX5_runScript_86 : decode cX5_runScript 86 = .ok (.ireturn, 1) := by decide +kernel
theorem dX5_runScript_87 : decode cX5_runScript 87 = .ok (.iinc 4 1, 3) := by decide +kernel
theorem dX5_runScript_90 : decode cX5_runScript 90 = .ok (.goto (-29), 3) := by decide +kernel
theorem dX5_runScript_93 : decode cX5_runScript 93 = .ok (.ldc 63, 2) := by decide +kernel
theorem dX5_runScript_95 : decode cX5_runScript 95 = .ok (.ireturn, 1) := by decide +kernel
theorem dX5_simulate_0 : decode cX5_simulate 0 = .ok (.iload_n 3, 1) := by decide +kernel
theorem dX5_simulate_1 : decode cX5_simulate 1 = .ok (.iconst 1, 1) := by decide +kernel
theorem dX5_simulate_2 : decode cX5_simulate 2 = .ok (.if_icmp .lt 9, 3) := by decide +kernel
theorem dX5_simulate_5 : decode cX5_simulate 5 = .ok (.iload_n 3, 1) := by decide +kernel
theorem dX5_simulate_6 : decode cX5_simulate 6 = .ok (.bipush 60, 2) := by decide +kernel
theorem dX5_simulate_8 : decode cX5_simulate 8 = .ok (.if_icmp .le 14, 3) := by decide +kernel
theorem dX5_simulate_11 : decode cX5_simulate 11 = .ok (.new 38, 3) := by decide +kernel
theorem dX5_simulate_14 : decode cX5_simulate 14 = .ok (.dup, 1) := by decide +kernel
theorem dX5_simulate_15 : decode cX5_simulate 15 = .ok (.ldc_w 326, 3) := by decide +kernel
theorem dX5_simulate_18 : decode cX5_simulate 18 = .ok (.invokespecial 42, 3) := by decide +kernel
theorem dX5_simulate_21 : decode cX5_simulate 21 = .ok (.athrow, 1) := by decide +kernel
theorem dX5_simulate_22 : decode cX5_simulate 22 = .ok (.aload_n 0, 1) := by decide +kernel
theorem dX5_simulate_23 : decode cX5_simulate 23 = .ok (.getfield 20, 3) := by decide +kernel
theorem dX5_simulate_26 : decode cX5_simulate 26 = .ok (.aload_n 0, 1) := by decide +kernel
theorem dX5_simulate_27 : decode cX5_simulate 27 = .ok (.getfield 16, 3) := by decide +kernel
theorem dX5_simulate_30 : decode cX5_simulate 30 = .ok (.invokevirtual 69, 3) := by decide +kernel
theorem dX5_simulate_33 : decode cX5_simulate 33 = .ok (.lload_n 1, 1) := by decide +kernel
theorem dX5_simulate_34 : decode cX5_simulate 34 = .ok (.lstore 4, 2) := by decide +kernel
theorem dX5_simulate_36 : decode cX5_simulate 36 = .ok (.iconst 0, 1) := by decide +kernel
theorem dX5_simulate_37 : decode cX5_simulate 37 = .ok (.istore 6, 2) := by decide +kernel
theorem dX5_simulate_39 : decode cX5_simulate 39 = .ok (.iload 6, 2) := by decide +kernel
theorem dX5_simulate_41 : decode cX5_simulate 41 = .ok (.iload_n 3, 1) := by decide +kernel
theorem dX5_simulate_42 : decode cX5_simulate 42 = .ok (.if_icmp .ge 99, 3) := by decide +kernel
theorem dX5_simulate_45 : decode cX5_simulate 45 = .ok (.lload 4, 2) := by decide +kernel
theorem dX5_simulate_47 : decode cX5_simulate 47 = .ok (.ldc2_w 328, 3) := by decide +kernel
theorem dX5_simulate_50 : decode cX5_simulate 50 = .ok (.lmul, 1) := by decide +kernel
theorem dX5_simulate_51 : decode cX5_simulate 51 = .ok (.ldc2_w 330, 3) := by decide +kernel
theorem dX5_simulate_54 : decode cX5_simulate 54 = .ok (.ladd, 1) := by decide +kernel
theorem dX5_simulate_55 : decode cX5_simulate 55 = .ok (.lstore 4, 2) := by decide +kernel
theorem dX5_simulate_57 : decode cX5_simulate 57 = .ok (.lload 4, 2) := by decide +kernel
theorem dX5_simulate_59 : decode cX5_simulate 59 = .ok (.bipush 33, 2) := by decide +kernel
theorem dX5_simulate_61 : decode cX5_simulate 61 = .ok (.lushr, 1) := by decide +kernel
theorem dX5_simulate_62 : decode cX5_simulate 62 = .ok (.l2i, 1) := by decide +kernel
theorem dX5_simulate_63 : decode cX5_simulate 63 = .ok (.istore 7, 2) := by decide +kernel
theorem dX5_simulate_65 : decode cX5_simulate 65 = .ok (.aload_n 0, 1) := by decide +kernel
theorem dX5_simulate_66 : decode cX5_simulate 66 = .ok (.getfield 20, 3) := by decide +kernel
theorem dX5_simulate_69 : decode cX5_simulate 69 = .ok (.iload 7, 2) := by decide +kernel
theorem dX5_simulate_71 : decode cX5_simulate 71 = .ok (.bipush 61, 2) := by decide +kernel
theorem dX5_simulate_73 : decode cX5_simulate 73 = .ok (.irem, 1) := by decide +kernel
theorem dX5_simulate_74 : decode cX5_simulate 74 = .ok (.bipush 20, 2) := by decide +kernel
theorem dX5_simulate_76 : decode cX5_simulate 76 = .ok (.isub, 1) := by decide +kernel
theorem dX5_simulate_77 : decode cX5_simulate 77 = .ok (.putfield 82, 3) := by decide +kernel
theorem dX5_simulate_80 : decode cX5_simulate 80 = .ok (.aload_n 0, 1) := by decide +kernel
theorem dX5_simulate_81 : decode cX5_simulate 81 = .ok (.getfield 20, 3) := by decide +kernel
theorem dX5_simulate_84 : decode cX5_simulate 84 = .ok (.getfield 76, 3) := by decide +kernel
theorem dX5_simulate_87 : decode cX5_simulate 87 = .ok (.ifCond .le 39, 3) := by decide +kernel
theorem dX5_simulate_90 : decode cX5_simulate 90 = .ok (.aload_n 0, 1) := by decide +kernel
theorem dX5_simulate_91 : decode cX5_simulate 91 = .ok (.getfield 20, 3) := by decide +kernel
theorem dX5_simulate_94 : decode cX5_simulate 94 = .ok (.iload 7, 2) := by decide +kernel
theorem dX5_simulate_96 : decode cX5_simulate 96 = .ok (.bipush 64, 2) := by decide +kernel
theorem dX5_simulate_98 : decode cX5_simulate 98 = .ok (.idiv, 1) := by decide +kernel
theorem dX5_simulate_99 : decode cX5_simulate 99 = .ok (.aload_n 0, 1) := by decide +kernel
theorem dX5_simulate_100 : decode cX5_simulate 100 = .ok (.getfield 20, 3) := by decide +kernel
theorem dX5_simulate_103 : decode cX5_simulate 103 = .ok (.getfield 76, 3) := by decide +kernel
theorem dX5_simulate_106 : decode cX5_simulate 106 = .ok (.irem, 1) := by decide +kernel
theorem dX5_simulate_107 : decode cX5_simulate 107 = .ok (.iload 7, 2) := by decide +kernel
theorem dX5_simulate_109 : decode cX5_simulate 109 = .ok (.sipush 512, 3) := by decide +kernel
theorem dX5_simulate_112 : decode cX5_simulate 112 = .ok (.idiv, 1) := by decide +kernel
theorem dX5_simulate_113 : decode cX5_simulate 113 = .ok (.iconst 4, 1) := by decide +kernel
theorem dX5_simulate_114 : decode cX5_simulate 114 = .ok (.irem, 1) := by decide +kernel
theorem dX5_simulate_115 : decode cX5_simulate 115 = .ok (.ifCond .ne 7, 3) := by decide +kernel
theorem dX5_simulate_118 : decode cX5_simulate 118 = .ok (.iconst 1, 1) := by decide +kernel
theorem dX5_simulate_119 : decode cX5_simulate 119 = .ok (.goto 4, 3) := by decide +kernel
theorem dX5_simulate_122 : decode cX5_simulate 122 = .ok (.iconst 0, 1) := by decide +kernel
theorem dX5_simulate_123 : decode cX5_simulate 123 = .ok (.invokevirtual 332, 3) := by decide +kernel
theorem dX5_simulate_126 : decode cX5_simulate 126 = .ok (.aload_n 0, 1) := by decide +kernel
theorem dX5_simulate_127 : decode cX5_simulate 127 = .ok (.getfield 20, 3) := by decide +kernel
theorem dX5_simulate_130 : decode cX5_simulate 130 = .ok (.bipush 10, 2) := by decide +kernel
theorem dX5_simulate_132 : decode cX5_simulate 132 = .ok (.invokevirtual 263, 3) := by decide +kernel
theorem dX5_simulate_135 : decode cX5_simulate 135 = .ok (.iinc 6 1, 3) := by decide +kernel
theorem dX5_simulate_138 : decode cX5_simulate 138 = .ok (.goto (-99), 3) := by decide +kernel
theorem dX5_simulate_141 : decode cX5_simulate 141 = .ok (.aload_n 0, 1) := by decide +kernel
theorem dX5_simulate_142 : decode cX5_simulate 142 = .ok (.getfield 20, 3) := by decide +kernel
theorem dX5_simulate_145 : decode cX5_simulate 145 = .ok (.invokevirtual 120, 3) := by decide +kernel
theorem dX5_simulate_148 : decode cX5_simulate 148 = .ok (.aload_n 0, 1) := by decide +kernel
theorem dX5_simulate_149 : decode cX5_simulate 149 = .ok (.getfield 16, 3) := by decide +kernel
theorem dX5_simulate_152 : decode cX5_simulate 152 = .ok (.invokevirtual 120, 3) := by decide +kernel
theorem dX5_simulate_155 : decode cX5_simulate 155 = .ok (.isub, 1) := by decide +kernel
theorem dX5_simulate_156 : decode cX5_simulate 156 = .ok (.i2l, 1) := by decide +kernel
theorem dX5_simulate_157 : decode cX5_simulate 157 = .ok (.lstore 6, 2) := by decide +kernel
theorem dX5_simulate_159 : decode cX5_simulate 159 = .ok (.ldc2_w 336, 3) := by decide +kernel
theorem dX5_simulate_162 : decode cX5_simulate 162 = .ok (.lload 6, 2) := by decide +kernel
theorem dX5_simulate_164 : decode cX5_simulate 164 = .ok (.lmul, 1) := by decide +kernel
theorem dX5_simulate_165 : decode cX5_simulate 165 = .ok (.aload_n 0, 1) := by decide +kernel
theorem dX5_simulate_166 : decode cX5_simulate 166 = .ok (.getfield 20, 3) := by decide +kernel
theorem dX5_simulate_169 : decode cX5_simulate 169 = .ok (.invokevirtual 308, 3) := by decide +kernel
theorem dX5_simulate_172 : decode cX5_simulate 172 = .ok (.aload_n 0, 1) := by decide +kernel
theorem dX5_simulate_173 : decode cX5_simulate 173 = .ok (.getfield 16, 3) := by decide +kernel
theorem dX5_simulate_176 : decode cX5_simulate 176 = .ok (.invokevirtual 308, 3) := by decide +kernel
theorem dX5_simulate_179 : decode cX5_simulate 179 = .ok (.isub, 1) := by decide +kernel
theorem dX5_simulate_180 : decode cX5_simulate 180 = .ok (.i2l, 1) := by decide +kernel
theorem dX5_simulate_181 : decode cX5_simulate 181 = .ok (.ladd, 1) := by decide +kernel
theorem dX5_simulate_182 : decode cX5_simulate 182 = .ok (.lreturn, 1) := by decide +kernel
theorem dX5_save_0 : decode cX5_save 0 = .ok (.iload_n 1, 1) := by decide +kernel
theorem dX5_save_1 : decode cX5_save 1 = .ok (.ifCond .lt 21, 3) := by decide +kernel
theorem dX5_save_4 : decode cX5_save 4 = .ok (.iload_n 1, 1) := by decide +kernel
theorem dX5_save_5 : decode cX5_save 5 = .ok (.aload_n 0, 1) := by decide +kernel
theorem dX5_save_6 : decode cX5_save 6 = .ok (.getfield 30, 3) := by decide +kernel
theorem dX5_save_9 : decode cX5_save 9 = .ok (.arraylength, 1) := by decide +kernel
theorem dX5_save_10 : decode cX5_save 10 = .ok (.if_icmp .ge 12, 3) := by decide +kernel
theorem dX5_save_13 : decode cX5_save 13 = .ok (.iload_n 1, 1) := by decide +kernel
theorem dX5_save_14 : decode cX5_save 14 = .ok (.aload_n 0, 1) := by decide +kernel
theorem dX5_save_15 : decode cX5_save 15 = .ok (.getfield 34, 3) := by decide +kernel
theorem dX5_save_18 : decode cX5_save 18 = .ok (.arraylength, 1) := by decide +kernel
theorem dX5_save_19 : decode cX5_save 19 = .ok (.if_icmp .lt 14, 3) := by decide +kernel
theorem dX5_save_22 : decode cX5_save 22 = .ok (.new 135, 3) := by decide +kernel
theorem dX5_save_25 : decode cX5_save 25 = .ok (.dup, 1) := by decide +kernel
theorem dX5_save_26 : decode cX5_save 26 = .ok (.ldc_w 338, 3) := by decide +kernel
theorem dX5_save_29 : decode cX5_save 29 = .ok (.invokespecial 139, 3) := by decide +kernel
theorem dX5_save_32 : decode cX5_save 32 = .ok (.athrow, 1) := by decide +kernel
theorem dX5_save_33 : decode cX5_save 33 = .ok (.aload_n 0, 1) := by decide +kernel
theorem dX5_save_34 : decode cX5_save 34 = .ok (.getfield 30, 3) := by decide +kernel
theorem dX5_save_37 : decode cX5_save 37 = .ok (.iload_n 1, 1) := by decide +kernel
theorem dX5_save_38 : decode cX5_save 38 = .ok (.aaload, 1) := by decide +kernel
theorem dX5_save_39 : decode cX5_save 39 = .ok (.aload_n 0, 1) := by decide +kernel
theorem dX5_save_40 : decode cX5_save 40 = .ok (.getfield 16, 3) := by decide +kernel
theorem dX5_save_43 : decode cX5_save 43 = .ok (.invokevirtual 69, 3) := by decide +kernel
theorem dX5_save_46 : decode cX5_save 46 = .ok (.aload_n 0, 1) := by decide +kernel
theorem dX5_save_47 : decode cX5_save 47 = .ok (.getfield 34, 3) := by decide +kernel
theorem dX5_save_50 : decode cX5_save 50 = .ok (.iload_n 1, 1) := by decide +kernel
theorem dX5_save_51 : decode cX5_save 51 = .ok (.iconst 1, 1) := by decide +kernel
theorem dX5_save_52 : decode cX5_save 52 = .ok (.bastore, 1) := by decide +kernel
theorem dX5_save_53 : decode cX5_save 53 = .ok (.aload_n 0, 1) := by decide +kernel
theorem dX5_save_54 : decode cX5_save 54 = .ok (.getfield 16, 3) := by decide +kernel
theorem dX5_save_57 : decode cX5_save 57 = .ok (.getfield 79, 3) := by decide +kernel
theorem dX5_save_60 : decode cX5_save 60 = .ok (.ireturn, 1) := by decide +kernel
theorem dX5_restore_0 : decode cX5_restore 0 = .ok (.iload_n 1, 1) := by decide +kernel
theorem dX5_restore_1 : decode cX5_restore 1 = .ok (.ifCond .lt 21, 3) := by decide +kernel
theorem dX5_restore_4 : decode cX5_restore 4 = .ok (.iload_n 1, 1) := by decide +kernel
theorem dX5_restore_5 : decode cX5_restore 5 = .ok (.aload_n 0, 1) := by decide +kernel
theorem dX5_restore_6 : decode cX5_restore 6 = .ok (.getfield 30, 3) := by decide +kernel
theorem dX5_restore_9 : decode cX5_restore 9 = .ok (.arraylength, 1) := by decide +kernel
theorem dX5_restore_10 : decode cX5_restore 10 = .ok (.if_icmp .ge 12, 3) := by decide +kernel
theorem dX5_restore_13 : decode cX5_restore 13 = .ok (.iload_n 1, 1) := by decide +kernel
theorem dX5_restore_14 : decode cX5_restore 14 = .ok (.aload_n 0, 1) := by decide +kernel
theorem dX5_restore_15 : decode cX5_restore 15 = .ok (.getfield 34, 3) := by decide +kernel
theorem dX5_restore_18 : decode cX5_restore 18 = .ok (.arraylength, 1) := by decide +kernel
theorem dX5_restore_19 : decode cX5_restore 19 = .ok (.if_icmp .lt 14, 3) := by decide +kernel
theorem dX5_restore_22 : decode cX5_restore 22 = .ok (.new 135, 3) := by decide +kernel
theorem dX5_restore_25 : decode cX5_restore 25 = .ok (.dup, 1) := by decide +kernel
theorem dX5_restore_26 : decode cX5_restore 26 = .ok (.ldc_w 338, 3) := by decide +kernel
theorem dX5_restore_29 : decode cX5_restore 29 = .ok (.invokespecial 139, 3) := by decide +kernel
theorem dX5_restore_32 : decode cX5_restore 32 = .ok (.athrow, 1) := by decide +kernel
theorem dX5_restore_33 : decode cX5_restore 33 = .ok (.aload_n 0, 1) := by decide +kernel
theorem dX5_restore_34 : decode cX5_restore 34 = .ok (.getfield 34, 3) := by decide +kernel
theorem dX5_restore_37 : decode cX5_restore 37 = .ok (.iload_n 1, 1) := by decide +kernel
theorem dX5_restore_38 : decode cX5_restore 38 = .ok (.baload, 1) := by decide +kernel
theorem dX5_restore_39 : decode cX5_restore 39 = .ok (.ifCond .ne 14, 3) := by decide +kernel
theorem dX5_restore_42 : decode cX5_restore 42 = .ok (.new 49, 3) := by decide +kernel
theorem dX5_restore_45 : decode cX5_restore 45 = .ok (.dup, 1) := by decide +kernel
theorem dX5_restore_46 : decode cX5_restore 46 = .ok (.ldc_w 340, 3) := by decide +kernel
theorem dX5_restore_49 : decode cX5_restore 49 = .ok (.invokespecial 53, 3) := by decide +kernel
theorem dX5_restore_52 : decode cX5_restore 52 = .ok (.athrow, 1) := by decide +kernel
theorem dX5_restore_53 : decode cX5_restore 53 = .ok (.aload_n 0, 1) := by decide +kernel
theorem dX5_restore_54 : decode cX5_restore 54 = .ok (.getfield 16, 3) := by decide +kernel
theorem dX5_restore_57 : decode cX5_restore 57 = .ok (.aload_n 0, 1) := by decide +kernel
theorem dX5_restore_58 : decode cX5_restore 58 = .ok (.getfield 30, 3) := by decide +kernel
theorem dX5_restore_61 : decode cX5_restore 61 = .ok (.iload_n 1, 1) := by decide +kernel
theorem dX5_restore_62 : decode cX5_restore 62 = .ok (.aaload, 1) := by decide +kernel
theorem dX5_restore_63 : decode cX5_restore 63 = .ok (.invokevirtual 69, 3) := by decide +kernel
theorem dX5_restore_66 : decode cX5_restore 66 = .ok (.aload_n 0, 1) := by decide +kernel
theorem dX5_restore_67 : decode cX5_restore 67 = .ok (.getfield 26, 3) := by decide +kernel
theorem dX5_restore_70 : decode cX5_restore 70 = .ok (.invokevirtual 73, 3) := by decide +kernel
theorem dX5_restore_73 : decode cX5_restore 73 = .ok (.aload_n 0, 1) := by decide +kernel
theorem dX5_restore_74 : decode cX5_restore 74 = .ok (.getfield 16, 3) := by decide +kernel
theorem dX5_restore_77 : decode cX5_restore 77 = .ok (.getfield 79, 3) := by decide +kernel
theorem dX5_restore_80 : decode cX5_restore 80 = .ok (.ireturn, 1) := by decide +kernel
theorem dX5_lowestSetting_0 : decode cX5_lowestSetting 0 = .ok (.iload_n 0, 1) := by decide +kernel
theorem dX5_lowestSetting_1 : decode cX5_lowestSetting 1 = .ok (.ifCond .lt 19, 3) := by decide +kernel
theorem dX5_lowestSetting_4 : decode cX5_lowestSetting 4 = .ok (.iload_n 0, 1) := by decide +kernel
theorem dX5_lowestSetting_5 : decode cX5_lowestSetting 5 = .ok (.getstatic 342, 3) := by decide +kernel
theorem dX5_lowestSetting_8 : decode cX5_lowestSetting 8 = .ok (.arraylength, 1) := by decide +kernel
theorem dX5_lowestSetting_9 : decode cX5_lowestSetting 9 = .ok (.if_icmp .ge 11, 3) := by decide +kernel
theorem dX5_lowestSetting_12 : decode cX5_lowestSetting 12 = .ok (.getstatic 342, 3) := by decide +kernel
theorem dX5_lowestSetting_15 : decode cX5_lowestSetting 15 = .ok (.iload_n 0, 1) := by decide +kernel
theorem dX5_lowestSetting_16 : decode cX5_lowestSetting 16 = .ok (.iaload, 1) := by decide +kernel
theorem dX5_lowestSetting_17 : decode cX5_lowestSetting 17 = .ok (.goto 4, 3) := by decide +kernel
theorem dX5_lowestSetting_20 : decode cX5_lowestSetting 20 = .ok (.iconst 1, 1) := by decide +kernel
theorem dX5_lowestSetting_21 : decode cX5_lowestSetting 21 = .ok (.ireturn, 1) := by decide +kernel
theorem dX5_highestSetting_0 : decode cX5_highestSetting 0 = .ok (.iload_n 0, 1) := by decide +kernel
theorem dX5_highestSetting_1 : decode cX5_highestSetting 1 = .ok (.ifCond .lt 19, 3) := by decide +kernel
theorem dX5_highestSetting_4 : decode cX5_highestSetting 4 = .ok (.iload_n 0, 1) := by decide +kernel
theorem dX5_highestSetting_5 : decode cX5_highestSetting 5 = .ok (.getstatic 345, 3) := by decide +kernel
theorem dX5_highestSetting_8 : decode cX5_highestSetting 8 = .ok (.arraylength, 1) := by decide +kernel
theorem dX5_highestSetting_9 : decode cX5_highestSetting 9 = .ok (.if_icmp .ge 11, 3) := by decide +kernel
theorem dX5_highestSetting_12 : decode cX5_highestSetting 12 = .ok (.getstatic 345, 3) := by decide +kernel
theorem dX5_highestSetting_15 : decode cX5_highestSetting 15 = .ok (.iload_n 0, 1) := by decide +kernel
theorem dX5_highestSetting_16 : decode cX5_highestSetting 16 = .ok (.iaload, 1) := by decide +kernel
theorem dX5_highestSetting_17 : decode cX5_highestSetting 17 = .ok (.goto 4, 3) := by decide +kernel
theorem dX5_highestSetting_20 : decode cX5_highestSetting 20 = .ok (.iconst 0, 1) := by decide +kernel
theorem dX5_highestSetting_21 : decode cX5_highestSetting 21 = .ok (.ireturn, 1) := by decide +kernel
theorem dX5_settingAllowed_0 : decode cX5_settingAllowed 0 = .ok (.iload_n 1, 1) := by decide +kernel
theorem dX5_settingAllowed_1 : decode cX5_settingAllowed 1 = .ok (.iload_n 0, 1) := by decide +kernel
theorem dX5_settingAllowed_2 : decode cX5_settingAllowed 2 = .ok (.invokestatic 298, 3) := by decide +kernel
theorem dX5_settingAllowed_5 : decode cX5_settingAllowed 5 = .ok (.if_icmp .lt 15, 3) := by decide +kernel
theorem dX5_settingAllowed_8 : decode cX5_settingAllowed 8 = .ok (.iload_n 1, 1) := by decide +kernel
theorem dX5_settingAllowed_9 : decode cX5_settingAllowed 9 = .ok (.iload_n 0, 1) := by decide +kernel
theorem dX5_settingAllowed_10 : decode cX5_settingAllowed 10 = .ok (.invokestatic 301, 3) := by decide +kernel
theorem dX5_settingAllowed_13 : decode cX5_settingAllowed 13 = .ok (.if_icmp .gt 7, 3) := by decide +kernel
theorem dX5_settingAllowed_16 : decode cX5_settingAllowed 16 = .ok (.iconst 1, 1) := by decide +kernel
theorem dX5_settingAllowed_17 : decode cX5_settingAllowed 17 = .ok (.goto 4, 3) := by decide +kernel
theorem dX5_settingAllowed_20 : decode cX5_settingAllowed 20 = .ok (.iconst 0, 1) := by decide +kernel
theorem dX5_settingAllowed_21 : decode cX5_settingAllowed 21 = .ok (.ireturn, 1) := by decide +kernel
theorem dX5_outsideAllowed_0 : decode cX5_outsideAllowed 0 = .ok (.iload_n 0, 1) := by decide +kernel
theorem dX5_outsideAllowed_1 : decode cX5_outsideAllowed 1 = .ok (.bipush (-20), 2) := by decide +kernel
theorem dX5_outsideAllowed_3 : decode cX5_outsideAllowed 3 = .ok (.if_icmp .lt 13, 3) := by decide +kernel
theorem dX5_outsideAllowed_6 : decode cX5_outsideAllowed 6 = .ok (.iload_n 0, 1) := by decide +kernel
theorem dX5_outsideAllowed_7 : decode cX5_outsideAllowed 7 = .ok (.bipush 40, 2) := by decide +kernel
theorem dX5_outsideAllowed_9 : decode cX5_outsideAllowed 9 = .ok (.if_icmp .gt 7, 3) := by decide +kernel
theorem dX5_outsideAllowed_12 : decode cX5_outsideAllowed 12 = .ok (.iconst 1, 1) := by decide +kernel
theorem dX5_outsideAllowed_13 : decode cX5_outsideAllowed 13 = .ok (.goto 4, 3) := by decide +kernel
theorem dX5_outsideAllowed_16 : decode cX5_outsideAllowed 16 = .ok (.iconst 0, 1) := by decide +kernel
theorem dX5_outsideAllowed_17 : decode cX5_outsideAllowed 17 = .ok (.ireturn, 1) := by decide +kernel
theorem dX5_passAllowed_0 : decode cX5_passAllowed 0 = .ok (.iload_n 0, 1) := by decide +kernel
theorem dX5_passAllowed_1 : decode cX5_passAllowed 1 = .ok (.iconst 1, 1) := by decide +kernel
theorem dX5_passAllowed_2 : decode cX5_passAllowed 2 = .ok (.if_icmp .lt 13, 3) := by decide +kernel
theorem dX5_passAllowed_5 : decode cX5_passAllowed 5 = .ok (.iload_n 0, 1) := by decide +kernel
theorem dX5_passAllowed_6 : decode cX5_passAllowed 6 = .ok (.bipush 60, 2) := by decide +kernel
theorem dX5_passAllowed_8 : decode cX5_passAllowed 8 = .ok (.if_icmp .gt 7, 3) := by decide +kernel
theorem dX5_passAllowed_11 : decode cX5_passAllowed 11 = .ok (.iconst 1, 1) := by decide +kernel
theorem dX5_passAllowed_12 : decode cX5_passAllowed 12 = .ok (.goto 4, 3) := by decide +kernel
theorem dX5_passAllowed_15 : decode cX5_passAllowed 15 = .ok (.iconst 0, 1) := by decide +kernel
theorem dX5_passAllowed_16 : decode cX5_passAllowed 16 = .ok (.ireturn, 1) := by decide +kernel
theorem dX5_wantedAllowed_0 : decode cX5_wantedAllowed 0 = .ok (.iload_n 0, 1) := by decide +kernel
theorem dX5_wantedAllowed_1 : decode cX5_wantedAllowed 1 = .ok (.bipush 10, 2) := by decide +kernel
theorem dX5_wantedAllowed_3 : decode cX5_wantedAllowed 3 = .ok (.if_icmp .lt 13, 3) := by decide +kernel
theorem dX5_wantedAllowed_6 : decode cX5_wantedAllowed 6 = .ok (.iload_n 0, 1) := by decide +kernel
theorem dX5_wantedAllowed_7 : decode cX5_wantedAllowed 7 = .ok (.bipush 25, 2) := by decide +kernel
theorem dX5_wantedAllowed_9 : decode cX5_wantedAllowed 9 = .ok (.if_icmp .gt 7, 3) := by decide +kernel
theorem dX5_wantedAllowed_12 : decode cX5_wantedAllowed 12 = .ok (.iconst 1, 1) := by decide +kernel
theorem dX5_wantedAllowed_13 : decode cX5_wantedAllowed 13 = .ok (.goto 4, 3) := by decide +kernel
theorem dX5_wantedAllowed_16 : decode cX5_wantedAllowed 16 = .ok (.iconst 0, 1) := by decide +kernel
theorem dX5_wantedAllowed_17 : decode cX5_wantedAllowed 17 = .ok (.ireturn, 1) := by decide +kernel
theorem dX5_radiatorsAllowed_0 : decode cX5_radiatorsAllowed 0 = .ok (.iload_n 0, 1) := by decide +kernel
theorem dX5_radiatorsAllowed_1 : decode cX5_radiatorsAllowed 1 = .ok (.iconst 1, 1) := by decide +kernel
theorem dX5_radiatorsAllowed_2 : decode cX5_radiatorsAllowed 2 = .ok (.if_icmp .lt 13, 3) := by decide +kernel
theorem dX5_radiatorsAllowed_5 : decode cX5_radiatorsAllowed 5 = .ok (.iload_n 0, 1) := by decide +kernel
theorem dX5_radiatorsAllowed_6 : decode cX5_radiatorsAllowed 6 = .ok (.bipush 9, 2) := by decide +kernel
theorem dX5_radiatorsAllowed_8 : decode cX5_radiatorsAllowed 8 = .ok (.if_icmp .gt 7, 3) := by decide +kernel
theorem dX5_radiatorsAllowed_11 : decode cX5_radiatorsAllowed 11 = .ok (.iconst 1, 1) := by decide +kernel
theorem dX5_radiatorsAllowed_12 : decode cX5_radiatorsAllowed 12 = .ok (.goto 4, 3) := by decide +kernel
theorem dX5_radiatorsAllowed_15 : decode cX5_radiatorsAllowed 15 = .ok (.iconst 0, 1) := by decide +kernel
theorem dX5_radiatorsAllowed_16 : decode cX5_radiatorsAllowed 16 = .ok (.ireturn, 1) := by decide +kernel
theorem dX5_leakAllowed_0 : decode cX5_leakAllowed 0 = .ok (.iload_n 0, 1) := by decide +kernel
theorem dX5_leakAllowed_1 : decode cX5_leakAllowed 1 = .ok (.ifCond .lt 13, 3) := by decide +kernel
theorem dX5_leakAllowed_4 : decode cX5_leakAllowed 4 = .ok (.iload_n 0, 1) := by decide +kernel
theorem dX5_leakAllowed_5 : decode cX5_leakAllowed 5 = .ok (.bipush 9, 2) := by decide +kernel
theorem dX5_leakAllowed_7 : decode cX5_leakAllowed 7 = .ok (.if_icmp .gt 7, 3) := by decide +kernel
theorem dX5_leakAllowed_10 : decode cX5_leakAllowed 10 = .ok (.iconst 1, 1) := by decide +kernel
theorem dX5_leakAllowed_11 : decode cX5_leakAllowed 11 = .ok (.goto 4, 3) := by decide +kernel
theorem dX5_leakAllowed_14 : decode cX5_leakAllowed 14 = .ok (.iconst 0, 1) := by decide +kernel
theorem dX5_leakAllowed_15 : decode cX5_leakAllowed 15 = .ok (.ireturn, 1) := by decide +kernel
theorem dX5_roomNumberAllowed_0 : decode cX5_roomNumberAllowed 0 = .ok (.iload_n 0, 1) := by decide +kernel
theorem dX5_roomNumberAllowed_1 : decode cX5_roomNumberAllowed 1 = .ok (.tableswitch 42 0 2 #[27, 32, 37], 27) := by decide +kernel
theorem dX5_roomNumberAllowed_28 : decode cX5_roomNumberAllowed 28 = .ok (.iload_n 1, 1) := by decide +kernel
theorem dX5_roomNumberAllowed_29 : decode cX5_roomNumberAllowed 29 = .ok (.invokestatic 208, 3) := by decide +kernel
theorem dX5_roomNumberAllowed_32 : decode cX5_roomNumberAllowed 32 = .ok (.ireturn, 1) := by decide +kernel
theorem dX5_roomNumberAllowed_33 : decode cX5_roomNumberAllowed 33 = .ok (.iload_n 1, 1) := by decide +kernel
theorem dX5_roomNumberAllowed_34 : decode cX5_roomNumberAllowed 34 = .ok (.invokestatic 211, 3) := by decide +kernel
theorem dX5_roomNumberAllowed_37 : decode cX5_roomNumberAllowed 37 = .ok (.ireturn, 1) := by decide +kernel
theorem dX5_roomNumberAllowed_38 : decode cX5_roomNumberAllowed 38 = .ok (.iload_n 1, 1) := by decide +kernel
theorem dX5_roomNumberAllowed_39 : decode cX5_roomNumberAllowed 39 = .ok (.invokestatic 214, 3) := by decide +kernel
theorem dX5_roomNumberAllowed_42 : decode cX5_roomNumberAllowed 42 = .ok (.ireturn, 1) := by decide +kernel
theorem dX5_roomNumberAllowed_43 : decode cX5_roomNumberAllowed 43 = .ok (.iconst 0, 1) := by decide +kernel
theorem dX5_roomNumberAllowed_44 : decode cX5_roomNumberAllowed 44 = .ok (.ireturn, 1) := by decide +kernel
theorem dX5_allRoomsGetWarm_0 : decode cX5_allRoomsGetWarm 0 = .ok (.iconst 1, 1) := by decide +kernel
theorem dX5_allRoomsGetWarm_1 : decode cX5_allRoomsGetWarm 1 = .ok (.aload_n 0, 1) := by decide +kernel
theorem dX5_allRoomsGetWarm_2 : decode cX5_allRoomsGetWarm 2 = .ok (.getfield 76, 3) := by decide +kernel
theorem dX5_allRoomsGetWarm_5 : decode cX5_allRoomsGetWarm 5 = .ok (.ishl, 1) := by decide +kernel
theorem dX5_allRoomsGetWarm_6 : decode cX5_allRoomsGetWarm 6 = .ok (.iconst 1, 1) := by decide +kernel
theorem dX5_allRoomsGetWarm_7 : decode cX5_allRoomsGetWarm 7 = .ok (.isub, 1) := by decide +kernel
theorem dX5_allRoomsGetWarm_8 : decode cX5_allRoomsGetWarm 8 = .ok (.istore_n 2, 1) := by decide +kernel
theorem dX5_allRoomsGetWarm_9 : decode cX5_allRoomsGetWarm 9 = .ok (.aload_n 0, 1) := by decide +kernel
theorem dX5_allRoomsGetWarm_10 : decode cX5_allRoomsGetWarm 10 = .ok (.invokevirtual 348, 3) := by decide +kernel
theorem dX5_allRoomsGetWarm_13 : decode cX5_allRoomsGetWarm 13 = .ok (.istore_n 3, 1) := by decide +kernel
theorem dX5_allRoomsGetWarm_14 : decode cX5_allRoomsGetWarm 14 = .ok (.iconst 0, 1) := by decide +kernel
theorem dX5_allRoomsGetWarm_15 : decode cX5_allRoomsGetWarm 15 = .ok (.istore 4, 2) := by decide +kernel
theorem dX5_allRoomsGetWarm_17 : decode cX5_allRoomsGetWarm 17 = .ok (.iload 4, 2) := by decide +kernel
theorem dX5_allRoomsGetWarm_19 : decode cX5_allRoomsGetWarm 19 = .ok (.iload_n 1, 1) := by decide +kernel
theorem dX5_allRoomsGetWarm_20 : decode cX5_allRoomsGetWarm 20 = .ok (.if_icmp .ge 26, 3) := by decide +kernel
theorem dX5_allRoomsGetWarm_23 : decode cX5_allRoomsGetWarm 23 = .ok (.iload_n 3, 1) := by decide +kernel
theorem dX5_allRoomsGetWarm_24 : decode cX5_allRoomsGetWarm 24 = .ok (.iload_n 2, 1) := by decide +kernel
theorem dX5_allRoomsGetWarm_25 : decode cX5_allRoomsGetWarm 25 = .ok (.if_icmp .eq 21, 3) := by decide +kernel
theorem dX5_allRoomsGetWarm_28 : decode cX5_allRoomsGetWarm 28 = .ok (.aload_n 0, 1) := by decide +kernel
theorem dX5_allRoomsGetWarm_29 : decode cX5_allRoomsGetWarm 29 = .ok (.iconst 1, 1) := by decide +kernel
theorem dX5_allRoomsGetWarm_30 : decode cX5_allRoomsGetWarm 30 = .ok (.invokevirtual 263, 3) := by decide +kernel
theorem dX5_allRoomsGetWarm_33 : decode cX5_allRoomsGetWarm 33 = .ok (.iload_n 3, 1) := by decide +kernel
theorem dX5_allRoomsGetWarm_34 : decode cX5_allRoomsGetWarm 34 = .ok (.aload_n 0, 1) := by decide +kernel
theorem dX5_allRoomsGetWarm_35 : decode cX5_allRoomsGetWarm 35 = .ok (.invokevirtual 348, 3) := by decide +kernel
theorem dX5_allRoomsGetWarm_38 : decode cX5_allRoomsGetWarm 38 = .ok (.ior, 1) := by decide +kernel
theorem dX5_allRoomsGetWarm_39 : decode cX5_allRoomsGetWarm 39 = .ok (.istore_n 3, 1) := by decide +kernel
theorem dX5_allRoomsGetWarm_40 : decode cX5_allRoomsGetWarm 40 = .ok (.iinc 4 1, 3) := by decide +kernel
theorem dX5_allRoomsGetWarm_43 : decode cX5_allRoomsGetWarm 43 = .ok (.goto (-26), 3) := by decide +kernel
theorem dX5_allRoomsGetWarm_46 : decode cX5_allRoomsGetWarm 46 = .ok (.iload_n 3, 1) := by decide +kernel
theorem dX5_allRoomsGetWarm_47 : decode cX5_allRoomsGetWarm 47 = .ok (.iload_n 2, 1) := by decide +kernel
theorem dX5_allRoomsGetWarm_48 : decode cX5_allRoomsGetWarm 48 = .ok (.if_icmp .ne 7, 3) := by decide +kernel
theorem dX5_allRoomsGetWarm_51 : decode cX5_allRoomsGetWarm 51 = .ok (.iconst 1, 1) := by decide +kernel
theorem dX5_allRoomsGetWarm_52 : decode cX5_allRoomsGetWarm 52 = .ok (.goto 4, 3) := by decide +kernel
theorem dX5_allRoomsGetWarm_55 : decode cX5_allRoomsGetWarm 55 = .ok (.iconst 0, 1) := by decide +kernel
theorem dX5_allRoomsGetWarm_56 : decode cX5_allRoomsGetWarm 56 = .ok (.ireturn, 1) := by decide +kernel
theorem dX5_longestScript_0 : decode cX5_longestScript 0 = .ok (.lconst 1, 1) := by decide +kernel
theorem dX5_longestScript_1 : decode cX5_longestScript 1 = .ok (.lstore_n 1, 1) := by decide +kernel
theorem dX5_longestScript_2 : decode cX5_longestScript 2 = .ok (.iconst 0, 1) := by decide +kernel
theorem dX5_longestScript_3 : decode cX5_longestScript 3 = .ok (.istore_n 3, 1) := by decide +kernel
theorem dX5_longestScript_4 : decode cX5_longestScript 4 = .ok (.iload_n 3, 1) := by decide +kernel
theorem dX5_longestScript_5 : decode cX5_longestScript 5 = .ok (.iload_n 0, 1) := by decide +kernel
theorem dX5_longestScript_6 : decode cX5_longestScript 6 = .ok (.if_icmp .ge 15, 3) := by decide +kernel
theorem dX5_longestScript_9 : decode cX5_longestScript 9 = .ok (.lload_n 1, 1) := by decide +kernel
theorem dX5_longestScript_10 : decode cX5_longestScript 10 = .ok (.ldc2_w 351, 3) := by decide +kernel
theorem dX5_longestScript_13 : decode cX5_longestScript 13 = .ok (.lmul, 1) := by decide +kernel
theorem dX5_longestScript_14 : decode cX5_longestScript 14 = .ok (.lstore_n 1, 1) := by decide +kernel
theorem dX5_longestScript_15 : decode cX5_longestScript 15 = .ok (.iinc 3 1, 3) := by decide +kernel
theorem dX5_longestScript_18 : decode cX5_longestScript 18 = .ok (.goto (-14), 3) := by decide +kernel
theorem dX5_longestScript_21 : decode cX5_longestScript 21 = .ok (.lload_n 1, 1) := by decide +kernel
theorem dX5_longestScript_22 : decode cX5_longestScript 22 = .ok (.lconst 1, 1) := by decide +kernel
theorem dX5_longestScript_23 : decode cX5_longestScript 23 = .ok (.lsub, 1) := by decide +kernel
theorem dX5_longestScript_24 : decode cX5_longestScript 24 = .ok (.lreturn, 1) := by decide +kernel
theorem dX5_groupAt_0 : decode cX5_groupAt 0 = .ok (.lload_n 1, 1) := by decide +kernel
theorem dX5_groupAt_1 : decode cX5_groupAt 1 = .ok (.lstore 4, 2) := by decide +kernel
theorem dX5_groupAt_3 : decode cX5_groupAt 3 = .ok (.iload_n 3, 1) := by decide +kernel
theorem dX5_groupAt_4 : decode cX5_groupAt 4 = .ok (.iconst 1, 1) := by decide +kernel
theorem dX5_groupAt_5 : decode cX5_groupAt 5 = .ok (.iadd, 1) := by decide +kernel
theorem dX5_groupAt_6 : decode cX5_groupAt 6 = .ok (.istore 6, 2) := by decide +kernel
theorem dX5_groupAt_8 : decode cX5_groupAt 8 = .ok (.iload 6, 2) := by decide +kernel
theorem dX5_groupAt_10 : decode cX5_groupAt 10 = .ok (.iload_n 0, 1) := by decide +kernel
theorem dX5_groupAt_11 : decode cX5_groupAt 11 = .ok (.if_icmp .ge 17, 3) := by decide +kernel
theorem dX5_groupAt_14 : decode cX5_groupAt 14 = .ok (.lload 4, 2) := by decide +kernel
theorem dX5_groupAt_16 : decode cX5_groupAt 16 = .ok (.ldc2_w 351, 3) := by decide +kernel
theorem dX5_groupAt_19 : decode cX5_groupAt 19 = .ok (.ldiv, 1) := by decide +kernel
theorem dX5_groupAt_20 : decode cX5_groupAt 20 = .ok (.lstore 4, 2) := by decide +kernel
theorem dX5_groupAt_22 : decode cX5_groupAt 22 = .ok (.iinc 6 1, 3) := by decide +kernel
theorem dX5_groupAt_25 : decode cX5_groupAt 25 = .ok (.goto (-17), 3) := by decide +kernel
theorem dX5_groupAt_28 : decode cX5_groupAt 28 = .ok (.lload 4, 2) := by decide +kernel
theorem dX5_groupAt_30 : decode cX5_groupAt 30 = .ok (.ldc2_w 351, 3) := by decide +kernel
theorem dX5_groupAt_33 : decode cX5_groupAt 33 = .ok (.lrem, 1) := by decide +kernel
theorem dX5_groupAt_34 : decode cX5_groupAt 34 = .ok (.l2i, 1) := by decide +kernel
theorem dX5_groupAt_35 : decode cX5_groupAt 35 = .ok (.ireturn, 1) := by decide +kernel
theorem dX5_commandSucceeds_0 : decode cX5_commandSucceeds 0 = .ok (.iload_n 1, 1) := by decide +kernel
theorem dX5_commandSucceeds_1 : decode cX5_commandSucceeds 1 = .ok (.sipush 1000, 3) := by decide +kernel
theorem dX5_commandSucceeds_4 : decode cX5_commandSucceeds 4 = .ok (.idiv, 1) := by decide +kernel
theorem dX5_commandSucceeds_5 : decode cX5_commandSucceeds 5 = .ok (.istore_n 2, 1) := by decide +kernel
theorem dX5_commandSucceeds_6 : decode cX5_commandSucceeds 6 = .ok (.iload_n 1, 1) := by decide +kernel
theorem dX5_commandSucceeds_7 : decode cX5_commandSucceeds 7 = .ok (.bipush 100, 2) := by decide +kernel
theorem dX5_commandSucceeds_9 : decode cX5_commandSucceeds 9 = .ok (.idiv, 1) := by decide +kernel
theorem dX5_commandSucceeds_10 : decode cX5_commandSucceeds 10 = .ok (.bipush 10, 2) := by decide +kernel
theorem dX5_commandSucceeds_12 : decode cX5_commandSucceeds 12 = .ok (.irem, 1) := by decide +kernel
theorem dX5_commandSucceeds_13 : decode cX5_commandSucceeds 13 = .ok (.istore_n 3, 1) := by decide +kernel
theorem dX5_commandSucceeds_14 : decode cX5_commandSucceeds 14 = .ok (.iload_n 1, 1) := by decide +kernel
theorem dX5_commandSucceeds_15 : decode cX5_commandSucceeds 15 = .ok (.bipush 100, 2) := by decide +kernel
theorem dX5_commandSucceeds_17 : decode cX5_commandSucceeds 17 = .ok (.irem, 1) := by decide +kernel
theorem dX5_commandSucceeds_18 : decode cX5_commandSucceeds 18 = .ok (.istore 4, 2) := by decide +kernel
theorem dX5_commandSucceeds_20 : decode cX5_commandSucceeds 20 = .ok (.iload_n 2, 1) := by decide +kernel
theorem dX5_commandSucceeds_21 : decode cX5_commandSucceeds 21 = .ok (.tableswitch 255 1 9 #[51, 73, 103, 111, 142, 150, 174, 193, 221], 51) := by decide +kernel
theorem dX5_commandSucceeds_72 : decode cX5_commandSucceeds 72 = .ok (.iload_n 3, 1) := by decide +kernel
theorem dX5_commandSucceeds_73 : decode cX5_commandSucceeds 73 = .ok (.ifCond .ne 11, 3) := by decide +kernel
theorem dX5_commandSucceeds_76 : decode cX5_commandSucceeds 76 = .ok (.iload 4, 2) := by decide +kernel
theorem dX5_commandSucceeds_78 : decode cX5_commandSucceeds 78 = .ok (.invokestatic 258, 3) := by decide +kernel
theorem dX5_commandSucceeds_81 : decode cX5_commandSucceeds 81 = .ok (.ifCond .ne 5, 3) := by decide +kernel
theorem dX5_commandSucceeds_84 : decode cX5_commandSucceeds 84 = .ok (.iconst 0, 1) := by decide +kernel
theorem dX5_commandSucceeds_85 : decode cX5_commandSucceeds 85 = .ok (.ireturn, 1) := by decide +kernel
theorem dX5_commandSucceeds_86 : decode cX5_commandSucceeds 86 = .ok (.aload_n 0, 1) := by decide +kernel
theorem dX5_commandSucceeds_87 : decode cX5_commandSucceeds 87 = .ok (.iload 4, 2) := by decide +kernel
theorem dX5_commandSucceeds_89 : decode cX5_commandSucceeds 89 = .ok (.invokevirtual 263, 3) := by decide +kernel
theorem dX5_commandSucceeds_92 : decode cX5_commandSucceeds 92 = .ok (.iconst 1, 1) := by decide +kernel
theorem dX5_commandSucceeds_93 : decode cX5_commandSucceeds 93 = .ok (.ireturn, 1) := by decide +kernel
theorem dX5_commandSucceeds_94 : decode cX5_commandSucceeds 94 = .ok (.iload_n 3, 1) := by decide +kernel
theorem dX5_commandSucceeds_95 : decode cX5_commandSucceeds 95 = .ok (.iconst 1, 1) := by decide +kernel
theorem dX5_commandSucceeds_96 : decode cX5_commandSucceeds 96 = .ok (.if_icmp .gt 26, 3) := by decide +kernel
theorem dX5_commandSucceeds_99 : decode cX5_commandSucceeds 99 = .ok (.aload_n 0, 1) := by decide +kernel
theorem dX5_commandSucceeds_100 : decode cX5_commandSucceeds 100 = .ok (.iload_n 3, 1) := by decide +kernel
theorem dX5_commandSucceeds_101 : decode cX5_commandSucceeds 101 = .ok (.ifCond .ne 8, 3) := by decide +kernel
theorem dX5_commandSucceeds_104 : decode cX5_commandSucceeds 104 = .ok (.iload 4, 2) := by decide +kernel
theorem dX5_commandSucceeds_106 : decode cX5_commandSucceeds 106 = .ok (.goto 6, 3) := by decide +kernel
theorem dX5_commandSucceeds_109 : decode cX5_commandSucceeds 109 = .ok (.iload 4, 2) := by decide +kernel
theorem dX5_commandSucceeds_111 : decode cX5_commandSucceeds 111 = .ok (.ineg, 1) := by decide +kernel
theorem dX5_commandSucceeds_112 : decode cX5_commandSucceeds 112 = .ok (.invokestatic 353, 3) := by decide +kernel
theorem dX5_commandSucceeds_115 : decode cX5_commandSucceeds 115 = .ok (.ifCond .eq 7, 3) := by decide +kernel
theorem dX5_commandSucceeds_118 : decode cX5_commandSucceeds 118 = .ok (.iconst 1, 1) := by decide +kernel
theorem dX5_commandSucceeds_119 : decode cX5_commandSucceeds 119 = .ok (.goto 4, 3) := by decide +kernel
theorem dX5_commandSucceeds_122 : decode cX5_commandSucceeds 122 = .ok (.iconst 0, 1) := by decide +kernel
theorem dX5_commandSucceeds_123 : decode cX5_commandSucceeds 123 = .ok (.ireturn, 1) := by decide +kernel
theorem dX5_commandSucceeds_124 : decode cX5_commandSucceeds 124 = .ok (.aload_n 0, 1) := by decide +kernel
theorem dX5_commandSucceeds_125 : decode cX5_commandSucceeds 125 = .ok (.iload_n 3, 1) := by decide +kernel
theorem dX5_commandSucceeds_126 : decode cX5_commandSucceeds 126 = .ok (.iload 4, 2) := by decide +kernel
theorem dX5_commandSucceeds_128 : decode cX5_commandSucceeds 128 = .ok (.invokestatic 356, 3) := by decide +kernel
theorem dX5_commandSucceeds_131 : decode cX5_commandSucceeds 131 = .ok (.ireturn, 1) := by decide +kernel
theorem dX5_commandSucceeds_132 : decode cX5_commandSucceeds 132 = .ok (.iload 4, 2) := by decide +kernel
theorem dX5_commandSucceeds_134 : decode cX5_commandSucceeds 134 = .ok (.iconst 1, 1) := by decide +kernel
theorem dX5_commandSucceeds_135 : decode cX5_commandSucceeds 135 = .ok (.if_icmp .gt 26, 3) := by decide +kernel
theorem dX5_commandSucceeds_138 : decode cX5_commandSucceeds 138 = .ok (.aload_n 0, 1) := by decide +kernel
theorem dX5_commandSucceeds_139 : decode cX5_commandSucceeds 139 = .ok (.iload_n 3, 1) := by decide +kernel
theorem dX5_commandSucceeds_140 : decode cX5_commandSucceeds 140 = .ok (.iload 4, 2) := by decide +kernel
theorem dX5_commandSucceeds_142 : decode cX5_commandSucceeds 142 = .ok (.iconst 1, 1) := by decide +kernel
theorem dX5_commandSucceeds_143 : decode cX5_commandSucceeds 143 = .ok (.if_icmp .ne 7, 3) := by decide +kernel
theorem dX5_commandSucceeds_146 : decode cX5_commandSucceeds 146 = .ok (.iconst 1, 1) := by decide +kernel
theorem dX5_commandSucceeds_147 : decode cX5_commandSucceeds 147 = .ok (.goto 4, 3) := by decide +kernel
theorem dX5_commandSucceeds_150 : decode cX5_commandSucceeds 150 = .ok (.iconst 0, 1) := by decide +kernel
theorem dX5_commandSucceeds_151 : decode cX5_commandSucceeds 151 = .ok (.invokestatic 360, 3) := by decide +kernel
theorem dX5_commandSucceeds_154 : decode cX5_commandSucceeds 154 = .ok (.ifCond .eq 7, 3) := by decide +kernel
theorem dX5_commandSucceeds_157 : decode cX5_commandSucceeds 157 = .ok (.iconst 1, 1) := by decide +kernel
theorem dX5_commandSucceeds_158 : decode cX5_commandSucceeds 158 = .ok (.goto 4, 3) := by decide +kernel
theorem dX5_commandSucceeds_161 : decode cX5_commandSucceeds 161 = .ok (.iconst 0, 1) := by decide +kernel
theorem dX5_commandSucceeds_162 : decode cX5_commandSucceeds 162 = .ok (.ireturn, 1) := by decide +kernel
theorem dX5_commandSucceeds_163 : decode cX5_commandSucceeds 163 = .ok (.aload_n 0, 1) := by decide +kernel
theorem dX5_commandSucceeds_164 : decode cX5_commandSucceeds 164 = .ok (.iload_n 3, 1) := by decide +kernel
theorem dX5_commandSucceeds_165 : decode cX5_commandSucceeds 165 = .ok (.iload 4, 2) := by decide +kernel
theorem dX5_commandSucceeds_167 : decode cX5_commandSucceeds 167 = .ok (.invokestatic 364, 3) := by decide +kernel
theorem dX5_commandSucceeds_170 : decode cX5_commandSucceeds 170 = .ok (.ireturn, 1) := by decide +kernel
theorem dX5_commandSucceeds_171 : decode cX5_commandSucceeds 171 = .ok (.aload_n 0, 1) := by decide +kernel
theorem dX5_commandSucceeds_172 : decode cX5_commandSucceeds 172 = .ok (.iload_n 3, 1) := by decide +kernel
theorem dX5_commandSucceeds_173 : decode cX5_commandSucceeds 173 = .ok (.invokevirtual 131, 3) := by decide +kernel
theorem dX5_commandSucceeds_176 : decode cX5_commandSucceeds 176 = .ok (.ifCond .eq 17, 3) := by decide +kernel
theorem dX5_commandSucceeds_179 : decode cX5_commandSucceeds 179 = .ok (.aload_n 0, 1) := by decide +kernel
theorem dX5_commandSucceeds_180 : decode cX5_commandSucceeds 180 = .ok (.iload_n 3, 1) := by decide +kernel
theorem dX5_commandSucceeds_181 : decode cX5_commandSucceeds 181 = .ok (.invokevirtual 143, 3) := by decide +kernel
theorem dX5_commandSucceeds_184 : decode cX5_commandSucceeds 184 = .ok (.iload 4, 2) := by decide +kernel
theorem dX5_commandSucceeds_186 : decode cX5_commandSucceeds 186 = .ok (.if_icmp .lt 7, 3) := by decide +kernel
theorem dX5_commandSucceeds_189 : decode cX5_commandSucceeds 189 = .ok (.iconst 1, 1) := by decide +kernel
theorem dX5_commandSucceeds_190 : decode cX5_commandSucceeds 190 = .ok (.goto 4, 3) := by decide +kernel
theorem dX5_commandSucceeds_193 : decode cX5_commandSucceeds 193 = .ok (.iconst 0, 1) := by decide +kernel
theorem dX5_commandSucceeds_194 : decode cX5_commandSucceeds 194 = .ok (.ireturn, 1) := by decide +kernel
theorem dX5_commandSucceeds_195 : decode cX5_commandSucceeds 195 = .ok (.iload_n 3, 1) := by decide +kernel
theorem dX5_commandSucceeds_196 : decode cX5_commandSucceeds 196 = .ok (.ifCond .ne 16, 3) := by decide +kernel
theorem dX5_commandSucceeds_199 : decode cX5_commandSucceeds 199 = .ok (.aload_n 0, 1) := by decide +kernel
theorem dX5_commandSucceeds_200 : decode cX5_commandSucceeds 200 = .ok (.getfield 92, 3) := by decide +kernel
theorem dX5_commandSucceeds_203 : decode cX5_commandSucceeds 203 = .ok (.iload 4, 2) := by decide +kernel
theorem dX5_commandSucceeds_205 : decode cX5_commandSucceeds 205 = .ok (.if_icmp .lt 7, 3) := by decide +kernel
theorem dX5_commandSucceeds_208 : decode cX5_commandSucceeds 208 = .ok (.iconst 1, 1) := by decide +kernel
theorem dX5_commandSucceeds_209 : decode cX5_commandSucceeds 209 = .ok (.goto 4, 3) := by decide +kernel
theorem dX5_commandSucceeds_212 : decode cX5_commandSucceeds 212 = .ok (.iconst 0, 1) := by decide +kernel
theorem dX5_commandSucceeds_213 : decode cX5_commandSucceeds 213 = .ok (.ireturn, 1) := by decide +kernel
theorem dX5_commandSucceeds_214 : decode cX5_commandSucceeds 214 = .ok (.aload_n 0, 1) := by decide +kernel
theorem dX5_commandSucceeds_215 : decode cX5_commandSucceeds 215 = .ok (.iload_n 3, 1) := by decide +kernel
theorem dX5_commandSucceeds_216 : decode cX5_commandSucceeds 216 = .ok (.invokevirtual 151, 3) := by decide +kernel
theorem dX5_commandSucceeds_219 : decode cX5_commandSucceeds 219 = .ok (.ifCond .eq 21, 3) := by decide +kernel
theorem dX5_commandSucceeds_222 : decode cX5_commandSucceeds 222 = .ok (.aload_n 0, 1) := by decide +kernel
theorem dX5_commandSucceeds_223 : decode cX5_commandSucceeds 223 = .ok (.getfield 156, 3) := by decide +kernel
theorem dX5_commandSucceeds_226 : decode cX5_commandSucceeds 226 = .ok (.iload_n 3, 1) := by decide +kernel
theorem dX5_commandSucceeds_227 : decode cX5_commandSucceeds 227 = .ok (.aaload, 1) := by decide +kernel
theorem dX5_commandSucceeds_228 : decode cX5_commandSucceeds 228 = .ok (.getfield 174, 3) := by decide +kernel
theorem dX5_commandSucceeds_231 : decode cX5_commandSucceeds 231 = .ok (.iload 4, 2) := by decide +kernel
theorem dX5_commandSucceeds_233 : decode cX5_commandSucceeds 233 = .ok (.if_icmp .lt 7, 3) := by decide +kernel
theorem dX5_commandSucceeds_236 : decode cX5_commandSucceeds 236 = .ok (.iconst 1, 1) := by decide +kernel
theorem dX5_commandSucceeds_237 : decode cX5_commandSucceeds 237 = .ok (.goto 4, 3) := by decide +kernel
theorem dX5_commandSucceeds_240 : decode cX5_commandSucceeds 240 = .ok (.iconst 0, 1) := by decide +kernel
theorem dX5_commandSucceeds_241 : decode cX5_commandSucceeds 241 = .ok (.ireturn, 1) := by decide +kernel
theorem dX5_commandSucceeds_242 : decode cX5_commandSucceeds 242 = .ok (.iload_n 3, 1) := by decide +kernel
theorem dX5_commandSucceeds_243 : decode cX5_commandSucceeds 243 = .ok (.ifCond .ne 31, 3) := by decide +kernel
theorem dX5_commandSucceeds_246 : decode cX5_commandSucceeds 246 = .ok (.iload 4, 2) := by decide +kernel
theorem dX5_commandSucceeds_248 : decode cX5_commandSucceeds 248 = .ok (.iconst 1, 1) := by decide +kernel
theorem dX5_commandSucceeds_249 : decode cX5_commandSucceeds 249 = .ok (.if_icmp .gt 25, 3) := by decide +kernel
theorem dX5_commandSucceeds_252 : decode cX5_commandSucceeds 252 = .ok (.aload_n 0, 1) := by decide +kernel
theorem dX5_commandSucceeds_253 : decode cX5_commandSucceeds 253 = .ok (.getfield 85, 3) := by decide +kernel
theorem dX5_commandSucceeds_256 : decode cX5_commandSucceeds 256 = .ok (.iload 4, 2) := by decide +kernel
theorem dX5_commandSucceeds_258 : decode cX5_commandSucceeds 258 = .ok (.iconst 1, 1) := by decide +kernel
theorem dX5_commandSucceeds_259 : decode cX5_commandSucceeds 259 = .ok (.if_icmp .ne 7, 3) := by decide +kernel
theorem dX5_commandSucceeds_262 : decode cX5_commandSucceeds 262 = .ok (.iconst 1, 1) := by decide +kernel
theorem dX5_commandSucceeds_263 : decode cX5_commandSucceeds 263 = .ok (.goto 4, 3) := by decide +kernel
theorem dX5_commandSucceeds_266 : decode cX5_commandSucceeds 266 = .ok (.iconst 0, 1) := by decide +kernel
theorem dX5_commandSucceeds_267 : decode cX5_commandSucceeds 267 = .ok (.if_icmp .ne 7, 3) := by decide +kernel
theorem dX5_commandSucceeds_270 : decode cX5_commandSucceeds 270 = .ok (.iconst 1, 1) := by decide +kernel
theorem dX5_commandSucceeds_271 : decode cX5_commandSucceeds 271 = .ok (.goto 4, 3) := by decide +kernel
theorem dX5_commandSucceeds_274 : decode cX5_commandSucceeds 274 = .ok (.iconst 0, 1) := by decide +kernel
theorem dX5_commandSucceeds_275 : decode cX5_commandSucceeds 275 = .ok (.ireturn, 1) := by decide +kernel
theorem dX5_commandSucceeds_276 : decode cX5_commandSucceeds 276 = .ok (.iconst 0, 1) := by decide +kernel
theorem dX5_commandSucceeds_277 : decode cX5_commandSucceeds 277 = .ok (.ireturn, 1) := by decide +kernel
end
section
theorem dX5_outsideCommand_0 : decode cX5_outsideCommand 0 = .ok (.iload_n 1, 1) := by decide +kernel
theorem dX5_outsideCommand_1 : decode cX5_outsideCommand 1 = .ok (.invokestatic 253, 3) := by decide +kernel
theorem dX5_outsideCommand_4 : decode cX5_outsideCommand 4 = .ok (.ifCond .ne 5, 3) := by decide +kernel
theorem dX5_outsideCommand_7 : decode cX5_outsideCommand 7 = .ok (.iconst 0, 1) := by decide +kernel
theorem dX5_outsideCommand_8 : decode cX5_outsideCommand 8 = .ok (.ireturn, 1) := by decide +kernel
theorem dX5_outsideCommand_9 : decode cX5_outsideCommand 9 = .ok (.aload_n 0, 1) := by decide +kernel
theorem dX5_outsideCommand_10 : decode cX5_outsideCommand 10 = .ok (.iload_n 1, 1) := by decide +kernel
theorem dX5_outsideCommand_11 : decode cX5_outsideCommand 11 = .ok (.putfield 82, 3) := by decide +kernel
theorem dX5_outsideCommand_14 : decode cX5_outsideCommand 14 = .ok (.iconst 1, 1) := by decide +kernel
theorem dX5_outsideCommand_15 : decode cX5_outsideCommand 15 = .ok (.ireturn, 1) := by decide +kernel
theorem dX5_settingCommand_0 : decode cX5_settingCommand 0 = .ok (.iload_n 1, 1) := by decide +kernel
theorem dX5_settingCommand_1 : decode cX5_settingCommand 1 = .ok (.iload_n 2, 1) := by decide +kernel
theorem dX5_settingCommand_2 : decode cX5_settingCommand 2 = .ok (.invokestatic 244, 3) := by decide +kernel
theorem dX5_settingCommand_5 : decode cX5_settingCommand 5 = .ok (.ifCond .ne 5, 3) := by decide +kernel
theorem dX5_settingCommand_8 : decode cX5_settingCommand 8 = .ok (.iconst 0, 1) := by decide +kernel
theorem dX5_settingCommand_9 : decode cX5_settingCommand 9 = .ok (.ireturn, 1) := by decide +kernel
theorem dX5_settingCommand_10 : decode cX5_settingCommand 10 = .ok (.aload_n 0, 1) := by decide +kernel
theorem dX5_settingCommand_11 : decode cX5_settingCommand 11 = .ok (.iload_n 1, 1) := by decide +kernel
theorem dX5_settingCommand_12 : decode cX5_settingCommand 12 = .ok (.iload_n 2, 1) := by decide +kernel
theorem dX5_settingCommand_13 : decode cX5_settingCommand 13 = .ok (.invokevirtual 249, 3) := by decide +kernel
theorem dX5_settingCommand_16 : decode cX5_settingCommand 16 = .ok (.iconst 1, 1) := by decide +kernel
theorem dX5_settingCommand_17 : decode cX5_settingCommand 17 = .ok (.ireturn, 1) := by decide +kernel
theorem dX5_windowCommand_0 : decode cX5_windowCommand 0 = .ok (.aload_n 0, 1) := by decide +kernel
theorem dX5_windowCommand_1 : decode cX5_windowCommand 1 = .ok (.iload_n 1, 1) := by decide +kernel
theorem dX5_windowCommand_2 : decode cX5_windowCommand 2 = .ok (.invokevirtual 151, 3) := by decide +kernel
theorem dX5_windowCommand_5 : decode cX5_windowCommand 5 = .ok (.ifCond .ne 5, 3) := by decide +kernel
theorem dX5_windowCommand_8 : decode cX5_windowCommand 8 = .ok (.iconst 0, 1) := by decide +kernel
theorem dX5_windowCommand_9 : decode cX5_windowCommand 9 = .ok (.ireturn, 1) := by decide +kernel
theorem dX5_windowCommand_10 : decode cX5_windowCommand 10 = .ok (.aload_n 0, 1) := by decide +kernel
theorem dX5_windowCommand_11 : decode cX5_windowCommand 11 = .ok (.iload_n 1, 1) := by decide +kernel
theorem dX5_windowCommand_12 : decode cX5_windowCommand 12 = .ok (.iload_n 2, 1) := by decide +kernel
theorem dX5_windowCommand_13 : decode cX5_windowCommand 13 = .ok (.invokevirtual 332, 3) := by decide +kernel
theorem dX5_windowCommand_16 : decode cX5_windowCommand 16 = .ok (.iconst 1, 1) := by decide +kernel
theorem dX5_windowCommand_17 : decode cX5_windowCommand 17 = .ok (.ireturn, 1) := by decide +kernel
theorem dX5_wantedCommand_0 : decode cX5_wantedCommand 0 = .ok (.aload_n 0, 1) := by decide +kernel
theorem dX5_wantedCommand_1 : decode cX5_wantedCommand 1 = .ok (.iload_n 1, 1) := by decide +kernel
theorem dX5_wantedCommand_2 : decode cX5_wantedCommand 2 = .ok (.invokevirtual 151, 3) := by decide +kernel
theorem dX5_wantedCommand_5 : decode cX5_wantedCommand 5 = .ok (.ifCond .eq 10, 3) := by decide +kernel
theorem dX5_wantedCommand_8 : decode cX5_wantedCommand 8 = .ok (.iload_n 2, 1) := by decide +kernel
theorem dX5_wantedCommand_9 : decode cX5_wantedCommand 9 = .ok (.invokestatic 208, 3) := by decide +kernel
theorem dX5_wantedCommand_12 : decode cX5_wantedCommand 12 = .ok (.ifCond .ne 5, 3) := by decide +kernel
theorem dX5_wantedCommand_15 : decode cX5_wantedCommand 15 = .ok (.iconst 0, 1) := by decide +kernel
theorem dX5_wantedCommand_16 : decode cX5_wantedCommand 16 = .ok (.ireturn, 1) := by decide +kernel
theorem dX5_wantedCommand_17 : decode cX5_wantedCommand 17 = .ok (.aload_n 0, 1) := by decide +kernel
theorem dX5_wantedCommand_18 : decode cX5_wantedCommand 18 = .ok (.getfield 156, 3) := by decide +kernel
theorem dX5_wantedCommand_21 : decode cX5_wantedCommand 21 = .ok (.iload_n 1, 1) := by decide +kernel
theorem dX5_wantedCommand_22 : decode cX5_wantedCommand 22 = .ok (.aaload, 1) := by decide +kernel
theorem dX5_wantedCommand_23 : decode cX5_wantedCommand 23 = .ok (.iload_n 2, 1) := by decide +kernel
theorem dX5_wantedCommand_24 : decode cX5_wantedCommand 24 = .ok (.putfield 160, 3) := by decide +kernel
theorem dX5_wantedCommand_27 : decode cX5_wantedCommand 27 = .ok (.iconst 1, 1) := by decide +kernel
theorem dX5_wantedCommand_28 : decode cX5_wantedCommand 28 = .ok (.ireturn, 1) := by decide +kernel
theorem dX6_init_0 : decode cX6_init 0 = .ok (.aload_n 0, 1) := by decide +kernel
theorem dX6_init_1 : decode cX6_init 1 = .ok (.invokespecial 1, 3) := by decide +kernel
theorem dX6_init_4 : decode cX6_init 4 = .ok (.aload_n 0, 1) := by decide +kernel
theorem dX6_init_5 : decode cX6_init 5 = .ok (.bipush 80, 2) := by decide +kernel
theorem dX6_init_7 : decode cX6_init 7 = .ok (.newarray .int, 2) := by decide +kernel
theorem dX6_init_9 : decode cX6_init 9 = .ok (.putfield 7, 3) := by decide +kernel
theorem dX6_init_12 : decode cX6_init 12 = .ok (.aload_n 0, 1) := by decide +kernel
theorem dX6_init_13 : decode cX6_init 13 = .ok (.sipush 128, 3) := by decide +kernel
theorem dX6_init_16 : decode cX6_init 16 = .ok (.newarray .int, 2) := by decide +kernel
theorem dX6_init_18 : decode cX6_init 18 = .ok (.putfield 13, 3) := by decide +kernel
theorem dX6_init_21 : decode cX6_init 21 = .ok (.aload_n 0, 1) := by decide +kernel
theorem dX6_init_22 : decode cX6_init 22 = .ok (.sipush 128, 3) := by decide +kernel
theorem dX6_init_25 : decode cX6_init 25 = .ok (.newarray .int, 2) := by decide +kernel
theorem dX6_init_27 : decode cX6_init 27 = .ok (.putfield 16, 3) := by decide +kernel
theorem dX6_init_30 : decode cX6_init 30 = .ok (.aload_n 0, 1) := by decide +kernel
theorem dX6_init_31 : decode cX6_init 31 = .ok (.sipush 128, 3) := by decide +kernel
theorem dX6_init_34 : decode cX6_init 34 = .ok (.newarray .int, 2) := by decide +kernel
theorem dX6_init_36 : decode cX6_init 36 = .ok (.putfield 19, 3) := by decide +kernel
theorem dX6_init_39 : decode cX6_init 39 = .ok (.aload_n 0, 1) := by decide +kernel
theorem dX6_init_40 : decode cX6_init 40 = .ok (.sipush 1792, 3) := by decide +kernel
theorem dX6_init_43 : decode cX6_init 43 = .ok (.newarray .int, 2) := by decide +kernel
theorem dX6_init_45 : decode cX6_init 45 = .ok (.putfield 22, 3) := by decide +kernel
theorem dX6_init_48 : decode cX6_init 48 = .ok (.aload_n 0, 1) := by decide +kernel
theorem dX6_init_49 : decode cX6_init 49 = .ok (.sipush 256, 3) := by decide +kernel
theorem dX6_init_52 : decode cX6_init 52 = .ok (.newarray .int, 2) := by decide +kernel
theorem dX6_init_54 : decode cX6_init 54 = .ok (.putfield 25, 3) := by decide +kernel
theorem dX6_init_57 : decode cX6_init 57 = .ok (.aload_n 0, 1) := by decide +kernel
theorem dX6_init_58 : decode cX6_init 58 = .ok (.iconst 2, 1) := by decide +kernel
theorem dX6_init_59 : decode cX6_init 59 = .ok (.newarray .boolean, 2) := by decide +kernel
theorem dX6_init_61 : decode cX6_init 61 = .ok (.putfield 28, 3) := by decide +kernel
theorem dX6_init_64 : decode cX6_init 64 = .ok (.aload_n 0, 1) := by decide +kernel
theorem dX6_init_65 : decode cX6_init 65 = .ok (.getfield 16, 3) := by decide +kernel
theorem dX6_init_68 : decode cX6_init 68 = .ok (.invokestatic 32, 3) := by decide +kernel
theorem dX6_init_71 : decode cX6_init 71 = .ok (.return_, 1) := by decide +kernel
theorem dX6_thrown_0 : decode cX6_thrown 0 = .ok (.aload_n 0, 1) := by decide +kernel
theorem dX6_thrown_1 : decode cX6_thrown 1 = .ok (.getfield 36, 3) := by decide +kernel
theorem dX6_thrown_4 : decode cX6_thrown 4 = .ok (.ireturn, 1) := by decide +kernel
theorem dX6_refused_0 : decode cX6_refused 0 = .ok (.aload_n 0, 1) := by decide +kernel
theorem dX6_refused_1 : decode cX6_refused 1 = .ok (.iload_n 1, 1) := by decide +kernel
theorem dX6_refused_2 : decode cX6_refused 2 = .ok (.putfield 36, 3) := by decide +kernel
theorem dX6_refused_5 : decode cX6_refused 5 = .ok (.iload_n 1, 1) := by decide +kernel
theorem dX6_refused_6 : decode cX6_refused 6 = .ok (.ifCond .le 7, 3) := by decide +kernel
theorem dX6_refused_9 : decode cX6_refused 9 = .ok (.iconst 1, 1) := by decide +kernel
theorem dX6_refused_10 : decode cX6_refused 10 = .ok (.goto 4, 3) := by decide +kernel
theorem dX6_refused_13 : decode cX6_refused 13 = .ok (.iconst 0, 1) := by decide +kernel
theorem dX6_refused_14 : decode cX6_refused 14 = .ok (.ireturn, 1) := by decide +kernel
theorem dX6_in_0 : decode cX6_in 0 = .ok (.lload_n 0, 1) := by decide +kernel
theorem dX6_in_1 : decode cX6_in 1 = .ok (.lload_n 2, 1) := by decide +kernel
theorem dX6_in_2 : decode cX6_in 2 = .ok (.lcmp, 1) := by decide +kernel
theorem dX6_in_3 : decode cX6_in 3 = .ok (.ifCond .lt 14, 3) := by decide +kernel
theorem dX6_in_6 : decode cX6_in 6 = .ok (.lload_n 0, 1) := by decide +kernel
theorem dX6_in_7 : decode cX6_in 7 = .ok (.lload 4, 2) := by decide +kernel
theorem dX6_in_9 : decode cX6_in 9 = .ok (.lcmp, 1) := by decide +kernel
theorem dX6_in_10 : decode cX6_in 10 = .ok (.ifCond .gt 7, 3) := by decide +kernel
theorem dX6_in_13 : decode cX6_in 13 = .ok (.iconst 1, 1) := by decide +kernel
theorem dX6_in_14 : decode cX6_in 14 = .ok (.goto 4, 3) := by decide +kernel
theorem dX6_in_17 : decode cX6_in 17 = .ok (.iconst 0, 1) := by decide +kernel
theorem dX6_in_18 : decode cX6_in 18 = .ok (.ireturn, 1) := by decide +kernel
theorem dX6_copy_0 : decode cX6_copy 0 = .ok (.iconst 0, 1) := by decide +kernel
theorem dX6_copy_1 : decode cX6_copy 1 = .ok (.istore 5, 2) := by decide +kernel
theorem dX6_copy_3 : decode cX6_copy 3 = .ok (.iload 5, 2) := by decide +kernel
theorem dX6_copy_5 : decode cX6_copy 5 = .ok (.iload 4, 2) := by decide +kernel
theorem dX6_copy_7 : decode cX6_copy 7 = .ok (.if_icmp .ge 21, 3) := by decide +kernel
theorem dX6_copy_10 : decode cX6_copy 10 = .ok (.aload_n 2, 1) := by decide +kernel
theorem dX6_copy_11 : decode cX6_copy 11 = .ok (.iload_n 3, 1) := by decide +kernel
theorem dX6_copy_12 : decode cX6_copy 12 = .ok (.iload 5, 2) := by decide +kernel
theorem dX6_copy_14 : decode cX6_copy 14 = .ok (.iadd, 1) := by decide +kernel
theorem dX6_copy_15 : decode cX6_copy 15 = .ok (.aload_n 0, 1) := by decide +kernel
theorem dX6_copy_16 : decode cX6_copy 16 = .ok (.iload_n 1, 1) := by decide +kernel
theorem dX6_copy_17 : decode cX6_copy 17 = .ok (.iload 5, 2) := by decide +kernel
theorem dX6_copy_19 : decode cX6_copy 19 = .ok (.iadd, 1) := by decide +kernel
theorem dX6_copy_20 : decode cX6_copy 20 = .ok (.iaload, 1) := by decide +kernel
theorem dX6_copy_21 : decode cX6_copy 21 = .ok (.iastore, 1) := by decide +kernel
theorem dX6_copy_22 : decode cX6_copy 22 = .ok (.iinc 5 1, 3) := by decide +kernel
theorem dX6_copy_25 : decode cX6_copy 25 = .ok (.goto (-22), 3) := by decide +kernel
theorem dX6_copy_28 : decode cX6_copy 28 = .ok (.return_, 1) := by decide +kernel
theorem dX6_tenTo_0 : decode cX6_tenTo 0 = .ok (.lconst 1, 1) := by decide +kernel
theorem dX6_tenTo_1 : decode cX6_tenTo 1 = .ok (.lstore_n 1, 1) := by decide +kernel
theorem dX6_tenTo_2 : decode cX6_tenTo 2 = .ok (.iconst 0, 1) := by decide +kernel
theorem dX6_tenTo_3 : decode cX6_tenTo 3 = .ok (.istore_n 3, 1) := by decide +kernel
theorem dX6_tenTo_4 : decode cX6_tenTo 4 = .ok (.iload_n 3, 1) := by decide +kernel
theorem dX6_tenTo_5 : decode cX6_tenTo 5 = .ok (.iload_n 0, 1) := by decide +kernel
theorem dX6_tenTo_6 : decode cX6_tenTo 6 = .ok (.if_icmp .ge 15, 3) := by decide +kernel
theorem dX6_tenTo_9 : decode cX6_tenTo 9 = .ok (.lload_n 1, 1) := by decide +kernel
theorem dX6_tenTo_10 : decode cX6_tenTo 10 = .ok (.ldc2_w 40, 3) := by decide +kernel
theorem dX6_tenTo_13 : decode cX6_tenTo 13 = .ok (.lmul, 1) := by decide +kernel
theorem dX6_tenTo_14 : decode cX6_tenTo 14 = .ok (.lstore_n 1, 1) := by decide +kernel
theorem dX6_tenTo_15 : decode cX6_tenTo 15 = .ok (.iinc 3 1, 3) := by decide +kernel
theorem dX6_tenTo_18 : decode cX6_tenTo 18 = .ok (.goto (-14), 3) := by decide +kernel
theorem dX6_tenTo_21 : decode cX6_tenTo 21 = .ok (.lload_n 1, 1) := by decide +kernel
theorem dX6_tenTo_22 : decode cX6_tenTo 22 = .ok (.lreturn, 1) := by decide +kernel
theorem dX6_down_0 : decode cX6_down 0 = .ok (.iload_n 0, 1) := by decide +kernel
theorem dX6_down_1 : decode cX6_down 1 = .ok (.iload_n 1, 1) := by decide +kernel
theorem dX6_down_2 : decode cX6_down 2 = .ok (.idiv, 1) := by decide +kernel
theorem dX6_down_3 : decode cX6_down 3 = .ok (.istore_n 2, 1) := by decide +kernel
theorem dX6_down_4 : decode cX6_down 4 = .ok (.iload_n 0, 1) := by decide +kernel
theorem dX6_down_5 : decode cX6_down 5 = .ok (.iload_n 1, 1) := by decide +kernel
theorem dX6_down_6 : decode cX6_down 6 = .ok (.irem, 1) := by decide +kernel
theorem dX6_down_7 : decode cX6_down 7 = .ok (.ifCond .ge 9, 3) := by decide +kernel
theorem dX6_down_10 : decode cX6_down 10 = .ok (.iload_n 2, 1) := by decide +kernel
theorem dX6_down_11 : decode cX6_down 11 = .ok (.iconst 1, 1) := by decide +kernel
theorem dX6_down_12 : decode cX6_down 12 = .ok (.isub, 1) := by decide +kernel
theorem dX6_down_13 : decode cX6_down 13 = .ok (.goto 4, 3) := by decide +kernel
theorem dX6_down_16 : decode cX6_down 16 = .ok (.iload_n 2, 1) := by decide +kernel
theorem dX6_down_17 : decode cX6_down 17 = .ok (.ireturn, 1) := by decide +kernel
theorem dX6_least_0 : decode cX6_least 0 = .ok (.iload_n 0, 1) := by decide +kernel
theorem dX6_least_1 : decode cX6_least 1 = .ok (.tableswitch 55 1 8 #[47, 55, 55, 55, 50, 50, 55, 52], 47) := by decide +kernel
theorem dX6_least_48 : decode cX6_least 48 = .ok (.bipush 30, 2) := by decide +kernel
theorem dX6_least_50 : decode cX6_least 50 = .ok (.ireturn, 1) := by decide +kernel
theorem dX6_least_51 : decode cX6_least 51 = .ok (.iconst 1, 1) := by decide +kernel
theorem dX6_least_52 : decode cX6_least 52 = .ok (.ireturn, 1) := by decide +kernel
theorem dX6_least_53 : decode cX6_least 53 = .ok (.bipush 10, 2) := by decide +kernel
theorem dX6_least_55 : decode cX6_least 55 = .ok (.ireturn, 1) := by decide +kernel
theorem dX6_least_56 : decode cX6_least 56 = .ok (.iconst 0, 1) := by decide +kernel
theorem dX6_least_57 : decode cX6_least 57 = .ok (.ireturn, 1) := by decide +kernel
theorem dX6_most_0 : decode cX6_most 0 = .ok (.iload_n 0, 1) := by decide +kernel
theorem dX6_most_1 : decode cX6_most 1 = .ok (.tableswitch 63 0 7 #[47, 51, 63, 63, 63, 54, 57, 60], 47) := by decide +kernel
theorem dX6_most_48 : decode cX6_most 48 = .ok (.sipush 200, 3) := by decide +kernel
theorem dX6_most_51 : decode cX6_most 51 = .ok (.ireturn, 1) := by decide +kernel
theorem dX6_most_52 : decode cX6_most 52 = .ok (.bipush 80, 2) := by decide +kernel
theorem dX6_most_54 : decode cX6_most 54 = .ok (.ireturn, 1) := by decide +kernel
theorem dX6_most_55 : decode cX6_most 55 = .ok (.bipush 50, 2) := by decide +kernel
theorem dX6_most_57 : decode cX6_most 57 = .ok (.ireturn, 1) := by decide +kernel
theorem dX6_most_58 : decode cX6_most 58 = .ok (.bipush 20, 2) := by decide +kernel
theorem dX6_most_60 : decode cX6_most 60 = .ok (.ireturn, 1) := by decide +kernel
theorem dX6_most_61 : decode cX6_most 61 = .ok (.bipush 60, 2) := by decide +kernel
theorem dX6_most_63 : decode cX6_most 63 = .ok (.ireturn, 1) := by decide +kernel
theorem dX6_most_64 : decode cX6_most 64 = .ok (.bipush 30, 2) := by decide +kernel
theorem dX6_most_66 : decode cX6_most 66 = .ok (.ireturn, 1) := by decide +kernel
theorem dX6_clean_0 : decode cX6_clean 0 = .ok (.iconst 0, 1) := by decide +kernel
theorem dX6_clean_1 : decode cX6_clean 1 = .ok (.istore_n 1, 1) := by decide +kernel
theorem dX6_clean_2 : decode cX6_clean 2 = .ok (.iload_n 1, 1) := by decide +kernel
theorem dX6_clean_3 : decode cX6_clean 3 = .ok (.sipush 128, 3) := by decide +kernel
theorem dX6_clean_6 : decode cX6_clean 6 = .ok (.if_icmp .ge 13, 3) := by decide +kernel
theorem dX6_clean_9 : decode cX6_clean 9 = .ok (.aload_n 0, 1) := by decide +kernel
theorem dX6_clean_10 : decode cX6_clean 10 = .ok (.iload_n 1, 1) := by decide +kernel
theorem dX6_clean_11 : decode cX6_clean 11 = .ok (.iconst 0, 1) := by decide +kernel
theorem dX6_clean_12 : decode cX6_clean 12 = .ok (.iastore, 1) := by decide +kernel
theorem dX6_clean_13 : decode cX6_clean 13 = .ok (.iinc 1 1, 3) := by decide +kernel
theorem dX6_clean_16 : decode cX6_clean 16 = .ok (.goto (-14), 3) := by decide +kernel
theorem dX6_clean_19 : decode cX6_clean 19 = .ok (.aload_n 0, 1) := by decide +kernel
theorem dX6_clean_20 : decode cX6_clean 20 = .ok (.iconst 2, 1) := by decide +kernel
theorem dX6_clean_21 : decode cX6_clean 21 = .ok (.iconst 5, 1) := by decide +kernel
theorem dX6_clean_22 : decode cX6_clean 22 = .ok (.iastore, 1) := by decide +kernel
theorem dX6_clean_23 : decode cX6_clean 23 = .ok (.aload_n 0, 1) := by decide +kernel
theorem dX6_clean_24 : decode cX6_clean 24 = .ok (.bipush 9, 2) := by decide +kernel
theorem dX6_clean_26 : decode cX6_clean 26 = .ok (.bipush 60, 2) := by decide +kernel
theorem dX6_clean_28 : decode cX6_clean 28 = .ok (.iastore, 1) := by decide +kernel
theorem dX6_clean_29 : decode cX6_clean 29 = .ok (.aload_n 0, 1) := by decide +kernel
theorem dX6_clean_30 : decode cX6_clean 30 = .ok (.bipush 10, 2) := by decide +kernel
theorem dX6_clean_32 : decode cX6_clean 32 = .ok (.bipush 60, 2) := by decide +kernel
theorem dX6_clean_34 : decode cX6_clean 34 = .ok (.iastore, 1) := by decide +kernel
theorem dX6_clean_35 : decode cX6_clean 35 = .ok (.aload_n 0, 1) := by decide +kernel
theorem dX6_clean_36 : decode cX6_clean 36 = .ok (.bipush 11, 2) := by decide +kernel
theorem dX6_clean_38 : decode cX6_clean 38 = .ok (.iconst 5, 1) := by decide +kernel
theorem dX6_clean_39 : decode cX6_clean 39 = .ok (.iastore, 1) := by decide +kernel
theorem dX6_clean_40 : decode cX6_clean 40 = .ok (.aload_n 0, 1) := by decide +kernel
theorem dX6_clean_41 : decode cX6_clean 41 = .ok (.bipush 12, 2) := by decide +kernel
theorem dX6_clean_43 : decode cX6_clean 43 = .ok (.iconst 3, 1) := by decide +kernel
theorem dX6_clean_44 : decode cX6_clean 44 = .ok (.iastore, 1) := by decide +kernel
theorem dX6_clean_45 : decode cX6_clean 45 = .ok (.aload_n 0, 1) := by decide +kernel
theorem dX6_clean_46 : decode cX6_clean 46 = .ok (.bipush 13, 2) := by decide +kernel
theorem dX6_clean_48 : decode cX6_clean 48 = .ok (.bipush 12, 2) := by decide +kernel
theorem dX6_clean_50 : decode cX6_clean 50 = .ok (.iastore, 1) := by decide +kernel
theorem dX6_clean_51 : decode cX6_clean 51 = .ok (.aload_n 0, 1) := by decide +kernel
theorem dX6_clean_52 : decode cX6_clean 52 = .ok (.bipush 14, 2) := by decide +kernel
theorem dX6_clean_54 : decode cX6_clean 54 = .ok (.bipush 20, 2) := by decide +kernel
theorem dX6_clean_56 : decode cX6_clean 56 = .ok (.iastore, 1) := by decide +kernel
theorem dX6_clean_57 : decode cX6_clean 57 = .ok (.aload_n 0, 1) := by decide +kernel
theorem dX6_clean_58 : decode cX6_clean 58 = .ok (.bipush 15, 2) := by decide +kernel
theorem dX6_clean_60 : decode cX6_clean 60 = .ok (.bipush 10, 2) := by decide +kernel
theorem dX6_clean_62 : decode cX6_clean 62 = .ok (.iastore, 1) := by decide +kernel
theorem dX6_clean_63 : decode cX6_clean 63 = .ok (.aload_n 0, 1) := by decide +kernel
theorem dX6_clean_64 : decode cX6_clean 64 = .ok (.bipush 16, 2) := by decide +kernel
theorem dX6_clean_66 : decode cX6_clean 66 = .ok (.bipush 35, 2) := by decide +kernel
theorem dX6_clean_68 : decode cX6_clean 68 = .ok (.iastore, 1) := by decide +kernel
theorem dX6_clean_69 : decode cX6_clean 69 = .ok (.aload_n 0, 1) := by decide +kernel
theorem dX6_clean_70 : decode cX6_clean 70 = .ok (.bipush 17, 2) := by decide +kernel
theorem dX6_clean_72 : decode cX6_clean 72 = .ok (.bipush 18, 2) := by decide +kernel
theorem dX6_clean_74 : decode cX6_clean 74 = .ok (.iastore, 1) := by decide +kernel
theorem dX6_clean_75 : decode cX6_clean 75 = .ok (.aload_n 0, 1) := by decide +kernel
theorem dX6_clean_76 : decode cX6_clean 76 = .ok (.bipush 18, 2) := by decide +kernel
theorem dX6_clean_78 : decode cX6_clean 78 = .ok (.sipush 800, 3) := by decide +kernel
theorem dX6_clean_81 : decode cX6_clean 81 = .ok (.iastore, 1) := by decide +kernel
theorem dX6_clean_82 : decode cX6_clean 82 = .ok (.aload_n 0, 1) := by decide +kernel
theorem dX6_clean_83 : decode cX6_clean 83 = .ok (.bipush 19, 2) := by decide +kernel
theorem dX6_clean_85 : decode cX6_clean 85 = .ok (.sipush 1200, 3) := by decide +kernel
theorem dX6_clean_88 : decode cX6_clean 88 = .ok (.iastore, 1) := by decide +kernel
theorem dX6_clean_89 : decode cX6_clean 89 = .ok (.return_, 1) := by decide +kernel
theorem dX6_note_0 : decode cX6_note 0 = .ok (.aload_n 0, 1) := by decide +kernel
theorem dX6_note_1 : decode cX6_note 1 = .ok (.getfield 42, 3) := by decide +kernel
theorem dX6_note_4 : decode cX6_note 4 = .ok (.bipush 14, 2) := by decide +kernel
theorem dX6_note_6 : decode cX6_note 6 = .ok (.if_icmp .ne 31, 3) := by decide +kernel
theorem dX6_note_9 : decode cX6_note 9 = .ok (.aload_n 0, 1) := by decide +kernel
theorem dX6_note_10 : decode cX6_note 10 = .ok (.getfield 22, 3) := by decide +kernel
theorem dX6_note_13 : decode cX6_note 13 = .ok (.sipush 128, 3) := by decide +kernel
theorem dX6_note_16 : decode cX6_note 16 = .ok (.aload_n 0, 1) := by decide +kernel
theorem dX6_note_17 : decode cX6_note 17 = .ok (.getfield 22, 3) := by decide +kernel
theorem dX6_note_20 : decode cX6_note 20 = .ok (.iconst 0, 1) := by decide +kernel
theorem dX6_note_21 : decode cX6_note 21 = .ok (.sipush 1664, 3) := by decide +kernel
theorem dX6_note_24 : decode cX6_note 24 = .ok (.invokestatic 45, 3) := by decide +kernel
theorem dX6_note_27 : decode cX6_note 27 = .ok (.aload_n 0, 1) := by decide +kernel
theorem dX6_note_28 : decode cX6_note 28 = .ok (.dup, 1) := by decide +kernel
theorem dX6_note_29 : decode cX6_note 29 = .ok (.getfield 42, 3) := by decide +kernel
theorem dX6_note_32 : decode cX6_note 32 = .ok (.iconst 1, 1) := by decide +kernel
theorem dX6_note_33 : decode cX6_note 33 = .ok (.isub, 1) := by decide +kernel
theorem dX6_note_34 : decode cX6_note 34 = .ok (.putfield 42, 3) := by decide +kernel
theorem dX6_note_37 : decode cX6_note 37 = .ok (.aload_n 0, 1) := by decide +kernel
theorem dX6_note_38 : decode cX6_note 38 = .ok (.getfield 16, 3) := by decide +kernel
theorem dX6_note_41 : decode cX6_note 41 = .ok (.iconst 0, 1) := by decide +kernel
theorem dX6_note_42 : decode cX6_note 42 = .ok (.aload_n 0, 1) := by decide +kernel
theorem dX6_note_43 : decode cX6_note 43 = .ok (.getfield 22, 3) := by decide +kernel
theorem dX6_note_46 : decode cX6_note 46 = .ok (.sipush 128, 3) := by decide +kernel
theorem dX6_note_49 : decode cX6_note 49 = .ok (.aload_n 0, 1) := by decide +kernel
theorem dX6_note_50 : decode cX6_note 50 = .ok (.getfield 42, 3) := by decide +kernel
theorem dX6_note_53 : decode cX6_note 53 = .ok (.imul, 1) := by decide +kernel
theorem dX6_note_54 : decode cX6_note 54 = .ok (.sipush 128, 3) := by decide +kernel
theorem dX6_note_57 : decode cX6_note 57 = .ok (.invokestatic 45, 3) := by decide +kernel
theorem dX6_note_60 : decode cX6_note 60 = .ok (.aload_n 0, 1) := by decide +kernel
theorem dX6_note_61 : decode cX6_note 61 = .ok (.dup, 1) := by decide +kernel
theorem dX6_note_62 : decode cX6_note 62 = .ok (.getfield 42, 3) := by decide +kernel
theorem dX6_note_65 : decode cX6_note 65 = .ok (.iconst 1, 1) := by decide +kernel
theorem dX6_note_66 : decode cX6_note 66 = .ok (.iadd, 1) := by decide +kernel
theorem dX6_note_67 : decode cX6_note 67 = .ok (.putfield 42, 3) := by decide +kernel
theorem dX6_note_70 : decode cX6_note 70 = .ok (.return_, 1) := by decide +kernel
theorem dX6_begin_0 : decode cX6_begin 0 = .ok (.aload_n 0, 1) := by decide +kernel
theorem dX6_begin_1 : decode cX6_begin 1 = .ok (.getfield 16, 3) := by decide +kernel
theorem dX6_begin_4 : decode cX6_begin 4 = .ok (.iconst 0, 1) := by decide +kernel
theorem dX6_begin_5 : decode cX6_begin 5 = .ok (.aload_n 0, 1) := by decide +kernel
theorem dX6_begin_6 : decode cX6_begin 6 = .ok (.getfield 19, 3) := by decide +kernel
theorem dX6_begin_9 : decode cX6_begin 9 = .ok (.iconst 0, 1) := by decide +kernel
theorem dX6_begin_10 : decode cX6_begin 10 = .ok (.sipush 128, 3) := by decide +kernel
theorem dX6_begin_13 : decode cX6_begin 13 = .ok (.invokestatic 45, 3) := by decide +kernel
theorem dX6_begin_16 : decode cX6_begin 16 = .ok (.return_, 1) := by decide +kernel
theorem dX6_cell_0 : decode cX6_cell 0 = .ok (.bipush 26, 2) := by decide +kernel
theorem dX6_cell_2 : decode cX6_cell 2 = .ok (.bipush 8, 2) := by decide +kernel
theorem dX6_cell_4 : decode cX6_cell 4 = .ok (.iload_n 0, 1) := by decide +kernel
theorem dX6_cell_5 : decode cX6_cell 5 = .ok (.imul, 1) := by decide +kernel
theorem dX6_cell_6 : decode cX6_cell 6 = .ok (.iadd, 1) := by decide +kernel
theorem dX6_cell_7 : decode cX6_cell 7 = .ok (.iload_n 1, 1) := by decide +kernel
theorem dX6_cell_8 : decode cX6_cell 8 = .ok (.iadd, 1) := by decide +kernel
theorem dX6_cell_9 : decode cX6_cell 9 = .ok (.ireturn, 1) := by decide +kernel
theorem dX6_isRoom_0 : decode cX6_isRoom 0 = .ok (.iload_n 1, 1) := by decide +kernel
theorem dX6_isRoom_1 : decode cX6_isRoom 1 = .ok (.i2l, 1) := by decide +kernel
theorem dX6_isRoom_2 : decode cX6_isRoom 2 = .ok (.lconst 0, 1) := by decide +kernel
theorem dX6_isRoom_3 : decode cX6_isRoom 3 = .ok (.aload_n 0, 1) := by decide +kernel
theorem dX6_isRoom_4 : decode cX6_isRoom 4 = .ok (.getfield 16, 3) := by decide +kernel
theorem dX6_isRoom_7 : decode cX6_isRoom 7 = .ok (.iconst 0, 1) := by decide +kernel
theorem dX6_isRoom_8 : decode cX6_isRoom 8 = .ok (.iaload, 1) := by decide +kernel
theorem dX6_isRoom_9 : decode cX6_isRoom 9 = .ok (.iconst 1, 1) := by decide +kernel
theorem dX6_isRoom_10 : decode cX6_isRoom 10 = .ok (.isub, 1) := by decide +kernel
theorem dX6_isRoom_11 : decode cX6_isRoom 11 = .ok (.i2l, 1) := by decide +kernel
theorem dX6_isRoom_12 : decode cX6_isRoom 12 = .ok (.invokestatic 49, 3) := by decide +kernel
theorem dX6_isRoom_15 : decode cX6_isRoom 15 = .ok (.ireturn, 1) := by decide +kernel
theorem dX6_isWarmPlace_0 : decode cX6_isWarmPlace 0 = .ok (.iload_n 1, 1) := by decide +kernel
theorem dX6_isWarmPlace_1 : decode cX6_isWarmPlace 1 = .ok (.i2l, 1) := by decide +kernel
theorem dX6_isWarmPlace_2 : decode cX6_isWarmPlace 2 = .ok (.lconst 0, 1) := by decide +kernel
theorem dX6_isWarmPlace_3 : decode cX6_isWarmPlace 3 = .ok (.aload_n 0, 1) := by decide +kernel
theorem dX6_isWarmPlace_4 : decode cX6_isWarmPlace 4 = .ok (.getfield 16, 3) := by decide +kernel
theorem dX6_isWarmPlace_7 : decode cX6_isWarmPlace 7 = .ok (.iconst 0, 1) := by decide +kernel
theorem dX6_isWarmPlace_8 : decode cX6_isWarmPlace 8 = .ok (.iaload, 1) := by decide +kernel
theorem dX6_isWarmPlace_9 : decode cX6_isWarmPlace 9 = .ok (.iconst 1, 1) := by decide +kernel
theorem dX6_isWarmPlace_10 : decode cX6_isWarmPlace 10 = .ok (.iadd, 1) := by decide +kernel
theorem dX6_isWarmPlace_11 : decode cX6_isWarmPlace 11 = .ok (.i2l, 1) := by decide +kernel
theorem dX6_isWarmPlace_12 : decode cX6_isWarmPlace 12 = .ok (.invokestatic 49, 3) := by decide +kernel
theorem dX6_isWarmPlace_15 : decode cX6_isWarmPlace 15 = .ok (.ireturn, 1) := by decide +kernel
theorem dX6_capacity_0 : decode cX6_capacity 0 = .ok (.iload_n 1, 1) := by decide +kernel
theorem dX6_capacity_1 : decode cX6_capacity 1 = .ok (.ifCond .ne 8, 3) := by decide +kernel
theorem dX6_capacity_4 : decode cX6_capacity 4 = .ok (.bipush 40, 2) := by decide +kernel
theorem dX6_capacity_6 : decode cX6_capacity 6 = .ok (.goto 25, 3) := by decide +kernel
theorem dX6_capacity_9 : decode cX6_capacity 9 = .ok (.iload_n 1, 1) := by decide +kernel
theorem dX6_capacity_10 : decode cX6_capacity 10 = .ok (.iconst 1, 1) := by decide +kernel
theorem dX6_capacity_11 : decode cX6_capacity 11 = .ok (.if_icmp .ne 8, 3) := by decide +kernel
theorem dX6_capacity_14 : decode cX6_capacity 14 = .ok (.bipush 60, 2) := by decide +kernel
theorem dX6_capacity_16 : decode cX6_capacity 16 = .ok (.goto 15, 3) := by decide +kernel
theorem dX6_capacity_19 : decode cX6_capacity 19 = .ok (.bipush 10, 2) := by decide +kernel
theorem dX6_capacity_21 : decode cX6_capacity 21 = .ok (.aload_n 0, 1) := by decide +kernel
theorem dX6_capacity_22 : decode cX6_capacity 22 = .ok (.iload_n 1, 1) := by decide +kernel
theorem dX6_capacity_23 : decode cX6_capacity 23 = .ok (.iconst 2, 1) := by decide +kernel
theorem dX6_capacity_24 : decode cX6_capacity 24 = .ok (.isub, 1) := by decide +kernel
theorem dX6_capacity_25 : decode cX6_capacity 25 = .ok (.iconst 0, 1) := by decide +kernel
theorem dX6_capacity_26 : decode cX6_capacity 26 = .ok (.invokestatic 53, 3) := by decide +kernel
theorem dX6_capacity_29 : decode cX6_capacity 29 = .ok (.iaload, 1) := by decide +kernel
theorem dX6_capacity_30 : decode cX6_capacity 30 = .ok (.imul, 1) := by decide +kernel
theorem dX6_capacity_31 : decode cX6_capacity 31 = .ok (.ireturn, 1) := by decide +kernel
theorem dX6_degrees_0 : decode cX6_degrees 0 = .ok (.aload_n 0, 1) := by decide +kernel
theorem dX6_degrees_1 : decode cX6_degrees 1 = .ok (.bipush 18, 2) := by decide +kernel
theorem dX6_degrees_3 : decode cX6_degrees 3 = .ok (.iload_n 1, 1) := by decide +kernel
theorem dX6_degrees_4 : decode cX6_degrees 4 = .ok (.iadd, 1) := by decide +kernel
theorem dX6_degrees_5 : decode cX6_degrees 5 = .ok (.iaload, 1) := by decide +kernel
theorem dX6_degrees_6 : decode cX6_degrees 6 = .ok (.aload_n 0, 1) := by decide +kernel
theorem dX6_degrees_7 : decode cX6_degrees 7 = .ok (.iload_n 1, 1) := by decide +kernel
theorem dX6_degrees_8 : decode cX6_degrees 8 = .ok (.invokestatic 57, 3) := by decide +kernel
theorem dX6_degrees_11 : decode cX6_degrees 11 = .ok (.invokestatic 61, 3) := by decide +kernel
theorem dX6_degrees_14 : decode cX6_degrees 14 = .ok (.ireturn, 1) := by decide +kernel
theorem dX6_wayOf_0 : decode cX6_wayOf 0 = .ok (.ldc 64, 2) := by decide +kernel
theorem dX6_wayOf_2 : decode cX6_wayOf 2 = .ok (.istore_n 3, 1) := by decide +kernel
theorem dX6_wayOf_3 : decode cX6_wayOf 3 = .ok (.iconst 0, 1) := by decide +kernel
theorem dX6_wayOf_4 : decode cX6_wayOf 4 = .ok (.istore 4, 2) := by decide +kernel
theorem dX6_wayOf_6 : decode cX6_wayOf 6 = .ok (.iload 4, 2) := by decide +kernel
theorem dX6_wayOf_8 : decode cX6_wayOf 8 = .ok (.aload_n 0, 1) := by decide +kernel
theorem dX6_wayOf_9 : decode cX6_wayOf 9 = .ok (.bipush 74, 2) := by decide +kernel
theorem dX6_wayOf_11 : decode cX6_wayOf 11 = .ok (.iaload, 1) := by decide +kernel
theorem dX6_wayOf_12 : decode cX6_wayOf 12 = .ok (.if_icmp .ge 34, 3) := by decide +kernel
theorem dX6_wayOf_15 : decode cX6_wayOf 15 = .ok (.aload_n 0, 1) := by decide +kernel
theorem dX6_wayOf_16 : decode cX6_wayOf 16 = .ok (.bipush 75, 2) := by decide +kernel
theorem dX6_wayOf_18 : decode cX6_wayOf 18 = .ok (.iconst 2, 1) := by decide +kernel
theorem dX6_wayOf_19 : decode cX6_wayOf 19 = .ok (.iload 4, 2) := by decide +kernel
theorem dX6_wayOf_21 : decode cX6_wayOf 21 = .ok (.imul, 1) := by decide +kernel
theorem dX6_wayOf_22 : decode cX6_wayOf 22 = .ok (.iadd, 1) := by decide +kernel
theorem dX6_wayOf_23 : decode cX6_wayOf 23 = .ok (.iaload, 1) := by decide +kernel
theorem dX6_wayOf_24 : decode cX6_wayOf 24 = .ok (.bipush 10, 2) := by decide +kernel
theorem dX6_wayOf_26 : decode cX6_wayOf 26 = .ok (.iload_n 1, 1) := by decide +kernel
theorem dX6_wayOf_27 : decode cX6_wayOf 27 = .ok (.imul, 1) := by decide +kernel
theorem dX6_wayOf_28 : decode cX6_wayOf 28 = .ok (.iload_n 2, 1) := by decide +kernel
theorem dX6_wayOf_29 : decode cX6_wayOf 29 = .ok (.iadd, 1) := by decide +kernel
theorem dX6_wayOf_30 : decode cX6_wayOf 30 = .ok (.if_icmp .ne 8, 3) := by decide +kernel
theorem dX6_wayOf_33 : decode cX6_wayOf 33 = .ok (.iload 4, 2) := by decide +kernel
theorem dX6_wayOf_35 : decode cX6_wayOf 35 = .ok (.goto 4, 3) := by decide +kernel
theorem dX6_wayOf_38 : decode cX6_wayOf 38 = .ok (.iload_n 3, 1) := by decide +kernel
theorem dX6_wayOf_39 : decode cX6_wayOf 39 = .ok (.istore_n 3, 1) := by decide +kernel
theorem dX6_wayOf_40 : decode cX6_wayOf 40 = .ok (.iinc 4 1, 3) := by decide +kernel
theorem dX6_wayOf_43 : decode cX6_wayOf 43 = .ok (.goto (-37), 3) := by decide +kernel
theorem dX6_wayOf_46 : decode cX6_wayOf 46 = .ok (.iload_n 3, 1) := by decide +kernel
theorem dX6_wayOf_47 : decode cX6_wayOf 47 = .ok (.ireturn, 1) := by decide +kernel
theorem dX6_movedOf_0 : decode cX6_movedOf 0 = .ok (.aload_n 0, 1) := by decide +kernel
theorem dX6_movedOf_1 : decode cX6_movedOf 1 = .ok (.iload_n 1, 1) := by decide +kernel
theorem dX6_movedOf_2 : decode cX6_movedOf 2 = .ok (.iload_n 2, 1) := by decide +kernel
theorem dX6_movedOf_3 : decode cX6_movedOf 3 = .ok (.invokestatic 65, 3) := by decide +kernel
theorem dX6_movedOf_6 : decode cX6_movedOf 6 = .ok (.istore_n 3, 1) := by decide +kernel
theorem dX6_movedOf_7 : decode cX6_movedOf 7 = .ok (.iload_n 3, 1) := by decide +kernel
theorem dX6_movedOf_8 : decode cX6_movedOf 8 = .ok (.ldc 64, 2) := by decide +kernel
theorem dX6_movedOf_10 : decode cX6_movedOf 10 = .ok (.if_icmp .ne 7, 3) := by decide +kernel
theorem dX6_movedOf_13 : decode cX6_movedOf 13 = .ok (.iconst 0, 1) := by decide +kernel
theorem dX6_movedOf_14 : decode cX6_movedOf 14 = .ok (.goto 11, 3) := by decide +kernel
theorem dX6_movedOf_17 : decode cX6_movedOf 17 = .ok (.aload_n 0, 1) := by decide +kernel
theorem dX6_movedOf_18 : decode cX6_movedOf 18 = .ok (.bipush 76, 2) := by decide +kernel
theorem dX6_movedOf_20 : decode cX6_movedOf 20 = .ok (.iconst 2, 1) := by decide +kernel
theorem dX6_movedOf_21 : decode cX6_movedOf 21 = .ok (.iload_n 3, 1) := by decide +kernel
theorem dX6_movedOf_22 : decode cX6_movedOf 22 = .ok (.imul, 1) := by decide +kernel
theorem dX6_movedOf_23 : decode cX6_movedOf 23 = .ok (.iadd, 1) := by decide +kernel
theorem dX6_movedOf_24 : decode cX6_movedOf 24 = .ok (.iaload, 1) := by decide +kernel
theorem dX6_movedOf_25 : decode cX6_movedOf 25 = .ok (.ireturn, 1) := by decide +kernel
theorem dX6_go_0 : decode cX6_go 0 = .ok (.iload_n 3, 1) := by decide +kernel
theorem dX6_go_1 : decode cX6_go 1 = .ok (.ifCond .le 111, 3) := by decide +kernel
theorem dX6_go_4 : decode cX6_go 4 = .ok (.aload_n 0, 1) := by decide +kernel
theorem dX6_go_5 : decode cX6_go 5 = .ok (.iload_n 1, 1) := by decide +kernel
theorem dX6_go_6 : decode cX6_go 6 = .ok (.iload_n 2, 1) := by decide +kernel
theorem dX6_go_7 : decode cX6_go 7 = .ok (.invokestatic 65, 3) := by decide +kernel
theorem dX6_go_10 : decode cX6_go 10 = .ok (.istore 4, 2) := by decide +kernel
theorem dX6_go_12 : decode cX6_go 12 = .ok (.iload 4, 2) := by decide +kernel
theorem dX6_go_14 : decode cX6_go 14 = .ok (.ldc 64, 2) := by decide +kernel
theorem dX6_go_16 : decode cX6_go 16 = .ok (.if_icmp .ne 51, 3) := by decide +kernel
theorem dX6_go_19 : decode cX6_go 19 = .ok (.aload_n 0, 1) := by decide +kernel
theorem dX6_go_20 : decode cX6_go 20 = .ok (.bipush 74, 2) := by decide +kernel
theorem dX6_go_22 : decode cX6_go 22 = .ok (.iaload, 1) := by decide +kernel
theorem dX6_go_23 : decode cX6_go 23 = .ok (.bipush 26, 2) := by decide +kernel
theorem dX6_go_25 : decode cX6_go 25 = .ok (.if_icmp .ge 42, 3) := by decide +kernel
theorem dX6_go_28 : decode cX6_go 28 = .ok (.aload_n 0, 1) := by decide +kernel
theorem dX6_go_29 : decode cX6_go 29 = .ok (.bipush 74, 2) := by decide +kernel
theorem dX6_go_31 : decode cX6_go 31 = .ok (.iaload, 1) := by decide +kernel
theorem dX6_go_32 : decode cX6_go 32 = .ok (.istore 4, 2) := by decide +kernel
theorem dX6_go_34 : decode cX6_go 34 = .ok (.aload_n 0, 1) := by decide +kernel
theorem dX6_go_35 : decode cX6_go 35 = .ok (.bipush 75, 2) := by decide +kernel
theorem dX6_go_37 : decode cX6_go 37 = .ok (.iconst 2, 1) := by decide +kernel
theorem dX6_go_38 : decode cX6_go 38 = .ok (.iload 4, 2) := by decide +kernel
theorem dX6_go_40 : decode cX6_go 40 = .ok (.imul, 1) := by decide +kernel
theorem dX6_go_41 : decode cX6_go 41 = .ok (.iadd, 1) := by decide +kernel
theorem dX6_go_42 : decode cX6_go 42 = .ok (.bipush 10, 2) := by decide +kernel
theorem dX6_go_44 : decode cX6_go 44 = .ok (.iload_n 1, 1) := by decide +kernel
theorem dX6_go_45 : decode cX6_go 45 = .ok (.imul, 1) := by decide +kernel
theorem dX6_go_46 : decode cX6_go 46 = .ok (.iload_n 2, 1) := by decide +kernel
theorem dX6_go_47 : decode cX6_go 47 = .ok (.iadd, 1) := by decide +kernel
theorem dX6_go_48 : decode cX6_go 48 = .ok (.iastore, 1) := by decide +kernel
theorem dX6_go_49 : decode cX6_go 49 = .ok (.aload_n 0, 1) := by decide +kernel
theorem dX6_go_50 : decode cX6_go 50 = .ok (.bipush 76, 2) := by decide +kernel
theorem dX6_go_52 : decode cX6_go 52 = .ok (.iconst 2, 1) := by decide +kernel
theorem dX6_go_53 : decode cX6_go 53 = .ok (.iload 4, 2) := by decide +kernel
theorem dX6_go_55 : decode cX6_go 55 = .ok (.imul, 1) := by decide +kernel
theorem dX6_go_56 : decode cX6_go 56 = .ok (.iadd, 1) := by decide +kernel
theorem dX6_go_57 : decode cX6_go 57 = .ok (.iconst 0, 1) := by decide +kernel
theorem dX6_go_58 : decode cX6_go 58 = .ok (.iastore, 1) := by decide +kernel
theorem dX6_go_59 : decode cX6_go 59 = .ok (.aload_n 0, 1) := by decide +kernel
theorem dX6_go_60 : decode cX6_go 60 = .ok (.bipush 74, 2) := by decide +kernel
theorem dX6_go_62 : decode cX6_go 62 = .ok (.dup2, 1) := by decide +kernel
theorem dX6_go_63 : decode cX6_go 63 = .ok (.iaload, 1) := by decide +kernel
theorem dX6_go_64 : decode cX6_go 64 = .ok (.iconst 1, 1) := by decide +kernel
theorem dX6_go_65 : decode cX6_go 65 = .ok (.iadd, 1) := by decide +kernel
theorem dX6_go_66 : decode cX6_go 66 = .ok (.iastore, 1) := by decide +kernel
theorem dX6_go_67 : decode cX6_go 67 = .ok (.aload_n 0, 1) := by decide +kernel
theorem dX6_go_68 : decode cX6_go 68 = .ok (.bipush 76, 2) := by decide +kernel
theorem dX6_go_70 : decode cX6_go 70 = .ok (.iconst 2, 1) := by decide +kernel
theorem dX6_go_71 : decode cX6_go 71 = .ok (.iload 4, 2) := by decide +kernel
theorem dX6_go_73 : decode cX6_go 73 = .ok (.imul, 1) := by decide +kernel
theorem dX6_go_74 : decode cX6_go 74 = .ok (.iadd, 1) := by decide +kernel
theorem dX6_go_75 : decode cX6_go 75 = .ok (.dup2, 1) := by decide +kernel
theorem dX6_go_76 : decode cX6_go 76 = .ok (.iaload, 1) := by decide +kernel
theorem dX6_go_77 : decode cX6_go 77 = .ok (.iload_n 3, 1) := by decide +kernel
theorem dX6_go_78 : decode cX6_go 78 = .ok (.iadd, 1) := by decide +kernel
theorem dX6_go_79 : decode cX6_go 79 = .ok (.iastore, 1) := by decide +kernel
theorem dX6_go_80 : decode cX6_go 80 = .ok (.iload_n 1, 1) := by decide +kernel
theorem dX6_go_81 : decode cX6_go 81 = .ok (.bipush 8, 2) := by decide +kernel
theorem dX6_go_83 : decode cX6_go 83 = .ok (.if_icmp .ge 13, 3) := by decide +kernel
theorem dX6_go_86 : decode cX6_go 86 = .ok (.aload_n 0, 1) := by decide +kernel
theorem dX6_go_87 : decode cX6_go 87 = .ok (.bipush 18, 2) := by decide +kernel
theorem dX6_go_89 : decode cX6_go 89 = .ok (.iload_n 1, 1) := by decide +kernel
theorem dX6_go_90 : decode cX6_go 90 = .ok (.iadd, 1) := by decide +kernel
theorem dX6_go_91 : decode cX6_go 91 = .ok (.dup2, 1) := by decide +kernel
theorem dX6_go_92 : decode cX6_go 92 = .ok (.iaload, 1) := by decide +kernel
theorem dX6_go_93 : decode cX6_go 93 = .ok (.iload_n 3, 1) := by decide +kernel
theorem dX6_go_94 : decode cX6_go 94 = .ok (.isub, 1) := by decide +kernel
theorem dX6_go_95 : decode cX6_go 95 = .ok (.iastore, 1) := by decide +kernel
theorem dX6_go_96 : decode cX6_go 96 = .ok (.iload_n 2, 1) := by decide +kernel
theorem dX6_go_97 : decode cX6_go 97 = .ok (.bipush 8, 2) := by decide +kernel
theorem dX6_go_99 : decode cX6_go 99 = .ok (.if_icmp .ge 13, 3) := by decide +kernel
theorem dX6_go_102 : decode cX6_go 102 = .ok (.aload_n 0, 1) := by decide +kernel
theorem dX6_go_103 : decode cX6_go 103 = .ok (.bipush 18, 2) := by decide +kernel
theorem dX6_go_105 : decode cX6_go 105 = .ok (.iload_n 2, 1) := by decide +kernel
theorem dX6_go_106 : decode cX6_go 106 = .ok (.iadd, 1) := by decide +kernel
theorem dX6_go_107 : decode cX6_go 107 = .ok (.dup2, 1) := by decide +kernel
theorem dX6_go_108 : decode cX6_go 108 = .ok (.iaload, 1) := by decide +kernel
theorem dX6_go_109 : decode cX6_go 109 = .ok (.iload_n 3, 1) := by decide +kernel
theorem dX6_go_110 : decode cX6_go 110 = .ok (.iadd, 1) := by decide +kernel
theorem dX6_go_111 : decode cX6_go 111 = .ok (.iastore, 1) := by decide +kernel
theorem dX6_go_112 : decode cX6_go 112 = .ok (.return_, 1) := by decide +kernel
theorem dX6_addTo_0 : decode cX6_addTo 0 = .ok (.aload_n 0, 1) := by decide +kernel
theorem dX6_addTo_1 : decode cX6_addTo 1 = .ok (.iconst 0, 1) := by decide +kernel
theorem dX6_addTo_2 : decode cX6_addTo 2 = .ok (.iaload, 1) := by decide +kernel
theorem dX6_addTo_3 : decode cX6_addTo 3 = .ok (.istore 5, 2) := by decide +kernel
theorem dX6_addTo_5 : decode cX6_addTo 5 = .ok (.aload_n 0, 1) := by decide +kernel
theorem dX6_addTo_6 : decode cX6_addTo 6 = .ok (.iload 5, 2) := by decide +kernel
theorem dX6_addTo_8 : decode cX6_addTo 8 = .ok (.iconst 0, 1) := by decide +kernel
theorem dX6_addTo_9 : decode cX6_addTo 9 = .ok (.invokestatic 53, 3) := by decide +kernel
theorem dX6_addTo_12 : decode cX6_addTo 12 = .ok (.iload_n 1, 1) := by decide +kernel
theorem dX6_addTo_13 : decode cX6_addTo 13 = .ok (.iastore, 1) := by decide +kernel
theorem dX6_addTo_14 : decode cX6_addTo 14 = .ok (.aload_n 0, 1) := by decide +kernel
theorem dX6_addTo_15 : decode cX6_addTo 15 = .ok (.iload 5, 2) := by decide +kernel
theorem dX6_addTo_17 : decode cX6_addTo 17 = .ok (.iconst 1, 1) := by decide +kernel
theorem dX6_addTo_18 : decode cX6_addTo 18 = .ok (.invokestatic 53, 3) := by decide +kernel
theorem dX6_addTo_21 : decode cX6_addTo 21 = .ok (.iload_n 2, 1) := by decide +kernel
theorem dX6_addTo_22 : decode cX6_addTo 22 = .ok (.iastore, 1) := by decide +kernel
theorem dX6_addTo_23 : decode cX6_addTo 23 = .ok (.aload_n 0, 1) := by decide +kernel
theorem dX6_addTo_24 : decode cX6_addTo 24 = .ok (.iload 5, 2) := by decide +kernel
theorem dX6_addTo_26 : decode cX6_addTo 26 = .ok (.iconst 2, 1) := by decide +kernel
theorem dX6_addTo_27 : decode cX6_addTo 27 = .ok (.invokestatic 53, 3) := by decide +kernel
theorem dX6_addTo_30 : decode cX6_addTo 30 = .ok (.iload_n 3, 1) := by decide +kernel
theorem dX6_addTo_31 : decode cX6_addTo 31 = .ok (.iastore, 1) := by decide +kernel
theorem dX6_addTo_32 : decode cX6_addTo 32 = .ok (.aload_n 0, 1) := by decide +kernel
theorem dX6_addTo_33 : decode cX6_addTo 33 = .ok (.iload 5, 2) := by decide +kernel
theorem dX6_addTo_35 : decode cX6_addTo 35 = .ok (.iconst 3, 1) := by decide +kernel
theorem dX6_addTo_36 : decode cX6_addTo 36 = .ok (.invokestatic 53, 3) := by decide +kernel
theorem dX6_addTo_39 : decode cX6_addTo 39 = .ok (.iload 4, 2) := by decide +kernel
theorem dX6_addTo_41 : decode cX6_addTo 41 = .ok (.iastore, 1) := by decide +kernel
theorem dX6_addTo_42 : decode cX6_addTo 42 = .ok (.aload_n 0, 1) := by decide +kernel
theorem dX6_addTo_43 : decode cX6_addTo 43 = .ok (.iconst 0, 1) := by decide +kernel
theorem dX6_addTo_44 : decode cX6_addTo 44 = .ok (.dup2, 1) := by decide +kernel
theorem dX6_addTo_45 : decode cX6_addTo 45 = .ok (.iaload, 1) := by decide +kernel
theorem dX6_addTo_46 : decode cX6_addTo 46 = .ok (.iconst 1, 1) := by decide +kernel
theorem dX6_addTo_47 : decode cX6_addTo 47 = .ok (.iadd, 1) := by decide +kernel
theorem dX6_addTo_48 : decode cX6_addTo 48 = .ok (.iastore, 1) := by decide +kernel
theorem dX6_addTo_49 : decode cX6_addTo 49 = .ok (.aload_n 0, 1) := by decide +kernel
theorem dX6_addTo_50 : decode cX6_addTo 50 = .ok (.bipush 9, 2) := by decide +kernel
theorem dX6_addTo_52 : decode cX6_addTo 52 = .ok (.iconst 2, 1) := by decide +kernel
theorem dX6_addTo_53 : decode cX6_addTo 53 = .ok (.iload 5, 2) := by decide +kernel
theorem dX6_addTo_55 : decode cX6_addTo 55 = .ok (.iadd, 1) := by decide +kernel
theorem dX6_addTo_56 : decode cX6_addTo 56 = .ok (.sipush 150, 3) := by decide +kernel
theorem dX6_addTo_59 : decode cX6_addTo 59 = .ok (.iload_n 1, 1) := by decide +kernel
theorem dX6_addTo_60 : decode cX6_addTo 60 = .ok (.imul, 1) := by decide +kernel
theorem dX6_addTo_61 : decode cX6_addTo 61 = .ok (.invokestatic 69, 3) := by decide +kernel
theorem dX6_addTo_64 : decode cX6_addTo 64 = .ok (.return_, 1) := by decide +kernel
theorem dX6_wish_0 : decode cX6_wish 0 = .ok (.aload_n 0, 1) := by decide +kernel
theorem dX6_wish_1 : decode cX6_wish 1 = .ok (.iconst 2, 1) := by decide +kernel
theorem dX6_wish_2 : decode cX6_wish 2 = .ok (.iaload, 1) := by decide +kernel
theorem dX6_wish_3 : decode cX6_wish 3 = .ok (.bipush 20, 2) := by decide +kernel
theorem dX6_wish_5 : decode cX6_wish 5 = .ok (.if_icmp .lt 6, 3) := by decide +kernel
theorem dX6_wish_8 : decode cX6_wish 8 = .ok (.bipush 20, 2) := by decide +kernel
theorem dX6_wish_10 : decode cX6_wish 10 = .ok (.ireturn, 1) := by decide +kernel
theorem dX6_wish_11 : decode cX6_wish 11 = .ok (.bipush 20, 2) := by decide +kernel
theorem dX6_wish_13 : decode cX6_wish 13 = .ok (.aload_n 0, 1) := by decide +kernel
theorem dX6_wish_14 : decode cX6_wish 14 = .ok (.bipush 13, 2) := by decide +kernel
theorem dX6_wish_16 : decode cX6_wish 16 = .ok (.iaload, 1) := by decide +kernel
theorem dX6_wish_17 : decode cX6_wish 17 = .ok (.bipush 20, 2) := by decide +kernel
theorem dX6_wish_19 : decode cX6_wish 19 = .ok (.aload_n 0, 1) := by decide +kernel
theorem dX6_wish_20 : decode cX6_wish 20 = .ok (.iconst 2, 1) := by decide +kernel
theorem dX6_wish_21 : decode cX6_wish 21 = .ok (.iaload, 1) := by decide +kernel
theorem dX6_wish_22 : decode cX6_wish 22 = .ok (.isub, 1) := by decide +kernel
theorem dX6_wish_23 : decode cX6_wish 23 = .ok (.imul, 1) := by decide +kernel
theorem dX6_wish_24 : decode cX6_wish 24 = .ok (.bipush 10, 2) := by decide +kernel
theorem dX6_wish_26 : decode cX6_wish 26 = .ok (.idiv, 1) := by decide +kernel
theorem dX6_wish_27 : decode cX6_wish 27 = .ok (.iadd, 1) := by decide +kernel
theorem dX6_wish_28 : decode cX6_wish 28 = .ok (.istore_n 1, 1) := by decide +kernel
theorem dX6_wish_29 : decode cX6_wish 29 = .ok (.iload_n 1, 1) := by decide +kernel
theorem dX6_wish_30 : decode cX6_wish 30 = .ok (.bipush 70, 2) := by decide +kernel
theorem dX6_wish_32 : decode cX6_wish 32 = .ok (.if_icmp .le 8, 3) := by decide +kernel
theorem dX6_wish_35 : decode cX6_wish 35 = .ok (.bipush 70, 2) := by decide +kernel
theorem dX6_wish_37 : decode cX6_wish 37 = .ok (.goto 4, 3) := by decide +kernel
theorem dX6_wish_40 : decode cX6_wish 40 = .ok (.iload_n 1, 1) := by decide +kernel
theorem dX6_wish_41 : decode cX6_wish 41 = .ok (.ireturn, 1) := by decide +kernel
theorem dX6_goSeason_0 : decode cX6_goSeason 0 = .ok (.aload_n 0, 1) := by decide +kernel
theorem dX6_goSeason_1 : decode cX6_goSeason 1 = .ok (.iconst 2, 1) := by decide +kernel
theorem dX6_goSeason_2 : decode cX6_goSeason 2 = .ok (.iaload, 1) := by decide +kernel
theorem dX6_goSeason_3 : decode cX6_goSeason 3 = .ok (.aload_n 0, 1) := by decide +kernel
theorem dX6_goSeason_4 : decode cX6_goSeason 4 = .ok (.bipush 17, 2) := by decide +kernel
theorem dX6_goSeason_6 : decode cX6_goSeason 6 = .ok (.iaload, 1) := by decide +kernel
theorem dX6_goSeason_7 : decode cX6_goSeason 7 = .ok (.if_icmp .lt 7, 3) := by decide +kernel
theorem dX6_goSeason_10 : decode cX6_goSeason 10 = .ok (.iconst 1, 1) := by decide +kernel
theorem dX6_goSeason_11 : decode cX6_goSeason 11 = .ok (.goto 4, 3) := by decide +kernel
theorem dX6_goSeason_14 : decode cX6_goSeason 14 = .ok (.iconst 0, 1) := by decide +kernel
theorem dX6_goSeason_15 : decode cX6_goSeason 15 = .ok (.istore_n 1, 1) := by decide +kernel
theorem dX6_goSeason_16 : decode cX6_goSeason 16 = .ok (.aload_n 0, 1) := by decide +kernel
theorem dX6_goSeason_17 : decode cX6_goSeason 17 = .ok (.bipush 7, 2) := by decide +kernel
theorem dX6_goSeason_19 : decode cX6_goSeason 19 = .ok (.iload_n 1, 1) := by decide +kernel
theorem dX6_goSeason_20 : decode cX6_goSeason 20 = .ok (.aload_n 0, 1) := by decide +kernel
theorem dX6_goSeason_21 : decode cX6_goSeason 21 = .ok (.bipush 6, 2) := by decide +kernel
theorem dX6_goSeason_23 : decode cX6_goSeason 23 = .ok (.iaload, 1) := by decide +kernel
theorem dX6_goSeason_24 : decode cX6_goSeason 24 = .ok (.ifCond .ne 7, 3) := by decide +kernel
theorem dX6_goSeason_27 : decode cX6_goSeason 27 = .ok (.iconst 1, 1) := by decide +kernel
theorem dX6_goSeason_28 : decode cX6_goSeason 28 = .ok (.goto 4, 3) := by decide +kernel
theorem dX6_goSeason_31 : decode cX6_goSeason 31 = .ok (.iconst 0, 1) := by decide +kernel
theorem dX6_goSeason_32 : decode cX6_goSeason 32 = .ok (.if_icmp .ne 12, 3) := by decide +kernel
theorem dX6_goSeason_35 : decode cX6_goSeason 35 = .ok (.aload_n 0, 1) := by decide +kernel
theorem dX6_goSeason_36 : decode cX6_goSeason 36 = .ok (.bipush 7, 2) := by decide +kernel
theorem dX6_goSeason_38 : decode cX6_goSeason 38 = .ok (.iaload, 1) := by decide +kernel
theorem dX6_goSeason_39 : decode cX6_goSeason 39 = .ok (.iconst 1, 1) := by decide +kernel
theorem dX6_goSeason_40 : decode cX6_goSeason 40 = .ok (.iadd, 1) := by decide +kernel
theorem dX6_goSeason_41 : decode cX6_goSeason 41 = .ok (.goto 4, 3) := by decide +kernel
theorem dX6_goSeason_44 : decode cX6_goSeason 44 = .ok (.iconst 0, 1) := by decide +kernel
theorem dX6_goSeason_45 : decode cX6_goSeason 45 = .ok (.iastore, 1) := by decide +kernel
theorem dX6_goSeason_46 : decode cX6_goSeason 46 = .ok (.aload_n 0, 1) := by decide +kernel
theorem dX6_goSeason_47 : decode cX6_goSeason 47 = .ok (.bipush 7, 2) := by decide +kernel
theorem dX6_goSeason_49 : decode cX6_goSeason 49 = .ok (.iaload, 1) := by decide +kernel
theorem dX6_goSeason_50 : decode cX6_goSeason 50 = .ok (.bipush 60, 2) := by decide +kernel
theorem dX6_goSeason_52 : decode cX6_goSeason 52 = .ok (.if_icmp .ne 18, 3) := by decide +kernel
theorem dX6_goSeason_55 : decode cX6_goSeason 55 = .ok (.aload_n 0, 1) := by decide +kernel
theorem dX6_goSeason_56 : decode cX6_goSeason 56 = .ok (.bipush 6, 2) := by decide +kernel
theorem dX6_goSeason_58 : decode cX6_goSeason 58 = .ok (.iconst 1, 1) := by decide +kernel
theorem dX6_goSeason_59 : decode cX6_goSeason 59 = .ok (.aload_n 0, 1) := by decide +kernel
theorem dX6_goSeason_60 : decode cX6_goSeason 60 = .ok (.bipush 6, 2) := by decide +kernel
theorem dX6_goSeason_62 : decode cX6_goSeason 62 = .ok (.iaload, 1) := by decide +kernel
theorem dX6_goSeason_63 : decode cX6_goSeason 63 = .ok (.isub, 1) := by decide +kernel
theorem dX6_goSeason_64 : decode cX6_goSeason 64 = .ok (.iastore, 1) := by decide +kernel
theorem dX6_goSeason_65 : decode cX6_goSeason 65 = .ok (.aload_n 0, 1) := by decide +kernel
theorem dX6_goSeason_66 : decode cX6_goSeason 66 = .ok (.bipush 7, 2) := by decide +kernel
theorem dX6_goSeason_68 : decode cX6_goSeason 68 = .ok (.iconst 0, 1) := by decide +kernel
theorem dX6_goSeason_69 : decode cX6_goSeason 69 = .ok (.iastore, 1) := by decide +kernel
theorem dX6_goSeason_70 : decode cX6_goSeason 70 = .ok (.return_, 1) := by decide +kernel
theorem dX6_turn_0 : decode cX6_turn 0 = .ok (.aload_n 0, 1) := by decide +kernel
theorem dX6_turn_1 : decode cX6_turn 1 = .ok (.iconst 3, 1) := by decide +kernel
theorem dX6_turn_2 : decode cX6_turn 2 = .ok (.iload_n 1, 1) := by decide +kernel
theorem dX6_turn_3 : decode cX6_turn 3 = .ok (.iastore, 1) := by decide +kernel
theorem dX6_turn_4 : decode cX6_turn 4 = .ok (.aload_n 0, 1) := by decide +kernel
theorem dX6_turn_5 : decode cX6_turn 5 = .ok (.iconst 4, 1) := by decide +kernel
theorem dX6_turn_6 : decode cX6_turn 6 = .ok (.aload_n 0, 1) := by decide +kernel
theorem dX6_turn_7 : decode cX6_turn 7 = .ok (.iconst 1, 1) := by decide +kernel
theorem dX6_turn_8 : decode cX6_turn 8 = .ok (.iaload, 1) := by decide +kernel
theorem dX6_turn_9 : decode cX6_turn 9 = .ok (.iastore, 1) := by decide +kernel
theorem dX6_turn_10 : decode cX6_turn 10 = .ok (.aload_n 0, 1) := by decide +kernel
theorem dX6_turn_11 : decode cX6_turn 11 = .ok (.bipush 8, 2) := by decide +kernel
theorem dX6_turn_13 : decode cX6_turn 13 = .ok (.dup2, 1) := by decide +kernel
theorem dX6_turn_14 : decode cX6_turn 14 = .ok (.iaload, 1) := by decide +kernel
theorem dX6_turn_15 : decode cX6_turn 15 = .ok (.iload_n 1, 1) := by decide +kernel
theorem dX6_turn_16 : decode cX6_turn 16 = .ok (.iadd, 1) := by decide +kernel
theorem dX6_turn_17 : decode cX6_turn 17 = .ok (.iastore, 1) := by decide +kernel
theorem dX6_turn_18 : decode cX6_turn 18 = .ok (.return_, 1) := by decide +kernel
theorem dX6_goBoiler_0 : decode cX6_goBoiler 0 = .ok (.aload_n 0, 1) := by decide +kernel
theorem dX6_goBoiler_1 : decode cX6_goBoiler 1 = .ok (.iconst 0, 1) := by decide +kernel
theorem dX6_goBoiler_2 : decode cX6_goBoiler 2 = .ok (.invokestatic 73, 3) := by decide +kernel
theorem dX6_goBoiler_5 : decode cX6_goBoiler 5 = .ok (.istore_n 1, 1) := by decide +kernel
theorem dX6_goBoiler_6 : decode cX6_goBoiler 6 = .ok (.aload_n 0, 1) := by decide +kernel
theorem dX6_goBoiler_7 : decode cX6_goBoiler 7 = .ok (.iconst 1, 1) := by decide +kernel
theorem dX6_goBoiler_8 : decode cX6_goBoiler 8 = .ok (.iaload, 1) := by decide +kernel
theorem dX6_goBoiler_9 : decode cX6_goBoiler 9 = .ok (.aload_n 0, 1) := by decide +kernel
theorem dX6_goBoiler_10 : decode cX6_goBoiler 10 = .ok (.iconst 4, 1) := by decide +kernel
theorem dX6_goBoiler_11 : decode cX6_goBoiler 11 = .ok (.iaload, 1) := by decide +kernel
theorem dX6_goBoiler_12 : decode cX6_goBoiler 12 = .ok (.isub, 1) := by decide +kernel
theorem dX6_goBoiler_13 : decode cX6_goBoiler 13 = .ok (.istore_n 2, 1) := by decide +kernel
theorem dX6_goBoiler_14 : decode cX6_goBoiler 14 = .ok (.aload_n 0, 1) := by decide +kernel
theorem dX6_goBoiler_15 : decode cX6_goBoiler 15 = .ok (.iconst 3, 1) := by decide +kernel
theorem dX6_goBoiler_16 : decode cX6_goBoiler 16 = .ok (.iaload, 1) := by decide +kernel
theorem dX6_goBoiler_17 : decode cX6_goBoiler 17 = .ok (.iconst 1, 1) := by decide +kernel
theorem dX6_goBoiler_18 : decode cX6_goBoiler 18 = .ok (.if_icmp .ne 53, 3) := by decide +kernel
theorem dX6_goBoiler_21 : decode cX6_goBoiler 21 = .ok (.iload_n 2, 1) := by decide +kernel
theorem dX6_goBoiler_22 : decode cX6_goBoiler 22 = .ok (.aload_n 0, 1) := by decide +kernel
theorem dX6_goBoiler_23 : decode cX6_goBoiler 23 = .ok (.bipush 11, 2) := by decide +kernel
theorem dX6_goBoiler_25 : decode cX6_goBoiler 25 = .ok (.iaload, 1) := by decide +kernel
theorem dX6_goBoiler_26 : decode cX6_goBoiler 26 = .ok (.if_icmp .lt 25, 3) := by decide +kernel
theorem dX6_goBoiler_29 : decode cX6_goBoiler 29 = .ok (.aload_n 0, 1) := by decide +kernel
theorem dX6_goBoiler_30 : decode cX6_goBoiler 30 = .ok (.bipush 6, 2) := by decide +kernel
theorem dX6_goBoiler_32 : decode cX6_goBoiler 32 = .ok (.iaload, 1) := by decide +kernel
theorem dX6_goBoiler_33 : decode cX6_goBoiler 33 = .ok (.iconst 1, 1) := by decide +kernel
theorem dX6_goBoiler_34 : decode cX6_goBoiler 34 = .ok (.if_icmp .eq 13, 3) := by decide +kernel
theorem dX6_goBoiler_37 : decode cX6_goBoiler 37 = .ok (.iload_n 1, 1) := by decide +kernel
theorem dX6_goBoiler_38 : decode cX6_goBoiler 38 = .ok (.aload_n 0, 1) := by decide +kernel
theorem dX6_goBoiler_39 : decode cX6_goBoiler 39 = .ok (.bipush 10, 2) := by decide +kernel
theorem dX6_goBoiler_41 : decode cX6_goBoiler 41 = .ok (.iaload, 1) := by decide +kernel
theorem dX6_goBoiler_42 : decode cX6_goBoiler 42 = .ok (.iconst 5, 1) := by decide +kernel
theorem dX6_goBoiler_43 : decode cX6_goBoiler 43 = .ok (.iadd, 1) := by decide +kernel
theorem dX6_goBoiler_44 : decode cX6_goBoiler 44 = .ok (.if_icmp .lt 7, 3) := by decide +kernel
theorem dX6_goBoiler_47 : decode cX6_goBoiler 47 = .ok (.iconst 1, 1) := by decide +kernel
theorem dX6_goBoiler_48 : decode cX6_goBoiler 48 = .ok (.goto 4, 3) := by decide +kernel
theorem dX6_goBoiler_51 : decode cX6_goBoiler 51 = .ok (.iconst 0, 1) := by decide +kernel
theorem dX6_goBoiler_52 : decode cX6_goBoiler 52 = .ok (.istore_n 3, 1) := by decide +kernel
theorem dX6_goBoiler_53 : decode cX6_goBoiler 53 = .ok (.iload_n 1, 1) := by decide +kernel
theorem dX6_goBoiler_54 : decode cX6_goBoiler 54 = .ok (.bipush 90, 2) := by decide +kernel
theorem dX6_goBoiler_56 : decode cX6_goBoiler 56 = .ok (.if_icmp .ge 7, 3) := by decide +kernel
theorem dX6_goBoiler_59 : decode cX6_goBoiler 59 = .ok (.iload_n 3, 1) := by decide +kernel
theorem dX6_goBoiler_60 : decode cX6_goBoiler 60 = .ok (.ifCond .eq 8, 3) := by decide +kernel
theorem dX6_goBoiler_63 : decode cX6_goBoiler 63 = .ok (.aload_n 0, 1) := by decide +kernel
theorem dX6_goBoiler_64 : decode cX6_goBoiler 64 = .ok (.iconst 0, 1) := by decide +kernel
theorem dX6_goBoiler_65 : decode cX6_goBoiler 65 = .ok (.invokestatic 76, 3) := by decide +kernel
theorem dX6_goBoiler_68 : decode cX6_goBoiler 68 = .ok (.goto 38, 3) := by decide +kernel
theorem dX6_goBoiler_71 : decode cX6_goBoiler 71 = .ok (.iload_n 2, 1) := by decide +kernel
theorem dX6_goBoiler_72 : decode cX6_goBoiler 72 = .ok (.aload_n 0, 1) := by decide +kernel
theorem dX6_goBoiler_73 : decode cX6_goBoiler 73 = .ok (.bipush 12, 2) := by decide +kernel
theorem dX6_goBoiler_75 : decode cX6_goBoiler 75 = .ok (.iaload, 1) := by decide +kernel
theorem dX6_goBoiler_76 : decode cX6_goBoiler 76 = .ok (.if_icmp .lt 30, 3) := by decide +kernel
theorem dX6_goBoiler_79 : decode cX6_goBoiler 79 = .ok (.aload_n 0, 1) := by decide +kernel
theorem dX6_goBoiler_80 : decode cX6_goBoiler 80 = .ok (.bipush 6, 2) := by decide +kernel
theorem dX6_goBoiler_82 : decode cX6_goBoiler 82 = .ok (.iaload, 1) := by decide +kernel
theorem dX6_goBoiler_83 : decode cX6_goBoiler 83 = .ok (.ifCond .ne 23, 3) := by decide +kernel
theorem dX6_goBoiler_86 : decode cX6_goBoiler 86 = .ok (.aload_n 0, 1) := by decide +kernel
theorem dX6_goBoiler_87 : decode cX6_goBoiler 87 = .ok (.bipush 9, 2) := by decide +kernel
theorem dX6_goBoiler_89 : decode cX6_goBoiler 89 = .ok (.iaload, 1) := by decide +kernel
theorem dX6_goBoiler_90 : decode cX6_goBoiler 90 = .ok (.ifCond .eq 16, 3) := by decide +kernel
theorem dX6_goBoiler_93 : decode cX6_goBoiler 93 = .ok (.iload_n 1, 1) := by decide +kernel
theorem dX6_goBoiler_94 : decode cX6_goBoiler 94 = .ok (.aload_n 0, 1) := by decide +kernel
theorem dX6_goBoiler_95 : decode cX6_goBoiler 95 = .ok (.bipush 10, 2) := by decide +kernel
theorem dX6_goBoiler_97 : decode cX6_goBoiler 97 = .ok (.iaload, 1) := by decide +kernel
theorem dX6_goBoiler_98 : decode cX6_goBoiler 98 = .ok (.if_icmp .ge 8, 3) := by decide +kernel
theorem dX6_goBoiler_101 : decode cX6_goBoiler 101 = .ok (.aload_n 0, 1) := by decide +kernel
theorem dX6_goBoiler_102 : decode cX6_goBoiler 102 = .ok (.iconst 1, 1) := by decide +kernel
theorem dX6_goBoiler_103 : decode cX6_goBoiler 103 = .ok (.invokestatic 76, 3) := by decide +kernel
theorem dX6_goBoiler_106 : decode cX6_goBoiler 106 = .ok (.aload_n 0, 1) := by decide +kernel
theorem dX6_goBoiler_107 : decode cX6_goBoiler 107 = .ok (.iconst 3, 1) := by decide +kernel
theorem dX6_goBoiler_108 : decode cX6_goBoiler 108 = .ok (.iaload, 1) := by decide +kernel
theorem dX6_goBoiler_109 : decode cX6_goBoiler 109 = .ok (.iconst 1, 1) := by decide +kernel
theorem dX6_goBoiler_110 : decode cX6_goBoiler 110 = .ok (.if_icmp .ne 14, 3) := by decide +kernel
theorem dX6_goBoiler_113 : decode cX6_goBoiler 113 = .ok (.aload_n 0, 1) := by decide +kernel
theorem dX6_goBoiler_114 : decode cX6_goBoiler 114 = .ok (.bipush 9, 2) := by decide +kernel
theorem dX6_goBoiler_116 : decode cX6_goBoiler 116 = .ok (.iconst 0, 1) := by decide +kernel
theorem dX6_goBoiler_117 : decode cX6_goBoiler 117 = .ok (.aload_n 0, 1) := by decide +kernel
theorem dX6_goBoiler_118 : decode cX6_goBoiler 118 = .ok (.bipush 9, 2) := by decide +kernel
theorem dX6_goBoiler_120 : decode cX6_goBoiler 120 = .ok (.iaload, 1) := by decide +kernel
theorem dX6_goBoiler_121 : decode cX6_goBoiler 121 = .ok (.invokestatic 69, 3) := by decide +kernel
theorem dX6_goBoiler_124 : decode cX6_goBoiler 124 = .ok (.return_, 1) := by decide +kernel
theorem dX6_freeTarget_0 : decode cX6_freeTarget 0 = .ok (.aload_n 0, 1) := by decide +kernel
theorem dX6_freeTarget_1 : decode cX6_freeTarget 1 = .ok (.invokestatic 80, 3) := by decide +kernel
theorem dX6_freeTarget_4 : decode cX6_freeTarget 4 = .ok (.aload_n 0, 1) := by decide +kernel
theorem dX6_freeTarget_5 : decode cX6_freeTarget 5 = .ok (.iconst 1, 1) := by decide +kernel
theorem dX6_freeTarget_6 : decode cX6_freeTarget 6 = .ok (.invokestatic 73, 3) := by decide +kernel
theorem dX6_freeTarget_9 : decode cX6_freeTarget 9 = .ok (.isub, 1) := by decide +kernel
theorem dX6_freeTarget_10 : decode cX6_freeTarget 10 = .ok (.istore_n 1, 1) := by decide +kernel
theorem dX6_freeTarget_11 : decode cX6_freeTarget 11 = .ok (.iload_n 1, 1) := by decide +kernel
theorem dX6_freeTarget_12 : decode cX6_freeTarget 12 = .ok (.ifCond .gt 7, 3) := by decide +kernel
theorem dX6_freeTarget_15 : decode cX6_freeTarget 15 = .ok (.iconst 0, 1) := by decide +kernel
theorem dX6_freeTarget_16 : decode cX6_freeTarget 16 = .ok (.goto 18, 3) := by decide +kernel
theorem dX6_freeTarget_19 : decode cX6_freeTarget 19 = .ok (.iload_n 1, 1) := by decide +kernel
theorem dX6_freeTarget_20 : decode cX6_freeTarget 20 = .ok (.bipush 10, 2) := by decide +kernel
theorem dX6_freeTarget_22 : decode cX6_freeTarget 22 = .ok (.if_icmp .le 8, 3) := by decide +kernel
theorem dX6_freeTarget_25 : decode cX6_freeTarget 25 = .ok (.bipush 100, 2) := by decide +kernel
theorem dX6_freeTarget_27 : decode cX6_freeTarget 27 = .ok (.goto 7, 3) := by decide +kernel
theorem dX6_freeTarget_30 : decode cX6_freeTarget 30 = .ok (.bipush 10, 2) := by decide +kernel
theorem dX6_freeTarget_32 : decode cX6_freeTarget 32 = .ok (.iload_n 1, 1) := by decide +kernel
theorem dX6_freeTarget_33 : decode cX6_freeTarget 33 = .ok (.imul, 1) := by decide +kernel
theorem dX6_freeTarget_34 : decode cX6_freeTarget 34 = .ok (.ireturn, 1) := by decide +kernel
theorem dX6_isPinched_0 : decode cX6_isPinched 0 = .ok (.aload_n 0, 1) := by decide +kernel
theorem dX6_isPinched_1 : decode cX6_isPinched 1 = .ok (.iconst 0, 1) := by decide +kernel
theorem dX6_isPinched_2 : decode cX6_isPinched 2 = .ok (.invokestatic 73, 3) := by decide +kernel
theorem dX6_isPinched_5 : decode cX6_isPinched 5 = .ok (.aload_n 0, 1) := by decide +kernel
theorem dX6_isPinched_6 : decode cX6_isPinched 6 = .ok (.bipush 16, 2) := by decide +kernel
theorem dX6_isPinched_8 : decode cX6_isPinched 8 = .ok (.iaload, 1) := by decide +kernel
theorem dX6_isPinched_9 : decode cX6_isPinched 9 = .ok (.if_icmp .ge 16, 3) := by decide +kernel
theorem dX6_isPinched_12 : decode cX6_isPinched 12 = .ok (.aload_n 0, 1) := by decide +kernel
theorem dX6_isPinched_13 : decode cX6_isPinched 13 = .ok (.invokestatic 84, 3) := by decide +kernel
theorem dX6_isPinched_16 : decode cX6_isPinched 16 = .ok (.bipush 20, 2) := by decide +kernel
theorem dX6_isPinched_18 : decode cX6_isPinched 18 = .ok (.if_icmp .le 7, 3) := by decide +kernel
theorem dX6_isPinched_21 : decode cX6_isPinched 21 = .ok (.iconst 1, 1) := by decide +kernel
theorem dX6_isPinched_22 : decode cX6_isPinched 22 = .ok (.goto 4, 3) := by decide +kernel
theorem dX6_isPinched_25 : decode cX6_isPinched 25 = .ok (.iconst 0, 1) := by decide +kernel
theorem dX6_isPinched_26 : decode cX6_isPinched 26 = .ok (.ireturn, 1) := by decide +kernel
theorem dX6_goValve_0 : decode cX6_goValve 0 = .ok (.aload_n 0, 1) := by decide +kernel
theorem dX6_goValve_1 : decode cX6_goValve 1 = .ok (.bipush 6, 2) := by decide +kernel
theorem dX6_goValve_3 : decode cX6_goValve 3 = .ok (.iaload, 1) := by decide +kernel
theorem dX6_goValve_4 : decode cX6_goValve 4 = .ok (.iconst 1, 1) := by decide +kernel
theorem dX6_goValve_5 : decode cX6_goValve 5 = .ok (.if_icmp .ne 22, 3) := by decide +kernel
theorem dX6_goValve_8 : decode cX6_goValve 8 = .ok (.aload_n 0, 1) := by decide +kernel
theorem dX6_goValve_9 : decode cX6_goValve 9 = .ok (.iconst 5, 1) := by decide +kernel
theorem dX6_goValve_10 : decode cX6_goValve 10 = .ok (.aload_n 0, 1) := by decide +kernel
theorem dX6_goValve_11 : decode cX6_goValve 11 = .ok (.iconst 1, 1) := by decide +kernel
theorem dX6_goValve_12 : decode cX6_goValve 12 = .ok (.iaload, 1) := by decide +kernel
theorem dX6_goValve_13 : decode cX6_goValve 13 = .ok (.bipush 30, 2) := by decide +kernel
theorem dX6_goValve_15 : decode cX6_goValve 15 = .ok (.irem, 1) := by decide +kernel
theorem dX6_goValve_16 : decode cX6_goValve 16 = .ok (.ifCond .ne 8, 3) := by decide +kernel
theorem dX6_goValve_19 : decode cX6_goValve 19 = .ok (.bipush 100, 2) := by decide +kernel
theorem dX6_goValve_21 : decode cX6_goValve 21 = .ok (.goto 4, 3) := by decide +kernel
theorem dX6_goValve_24 : decode cX6_goValve 24 = .ok (.iconst 0, 1) := by decide +kernel
theorem dX6_goValve_25 : decode cX6_goValve 25 = .ok (.iastore, 1) := by decide +kernel
theorem dX6_goValve_26 : decode cX6_goValve 26 = .ok (.return_, 1) := by decide +kernel
theorem dX6_goValve_27 : decode cX6_goValve 27 = .ok (.aload_n 0, 1) := by decide +kernel
theorem dX6_goValve_28 : decode cX6_goValve 28 = .ok (.invokestatic 87, 3) := by decide +kernel
theorem dX6_goValve_31 : decode cX6_goValve 31 = .ok (.ifCond .eq 8, 3) := by decide +kernel
theorem dX6_goValve_34 : decode cX6_goValve 34 = .ok (.bipush 20, 2) := by decide +kernel
theorem dX6_goValve_36 : decode cX6_goValve 36 = .ok (.goto 7, 3) := by decide +kernel
theorem dX6_goValve_39 : decode cX6_goValve 39 = .ok (.aload_n 0, 1) := by decide +kernel
theorem dX6_goValve_40 : decode cX6_goValve 40 = .ok (.invokestatic 84, 3) := by decide +kernel
theorem dX6_goValve_43 : decode cX6_goValve 43 = .ok (.aload_n 0, 1) := by decide +kernel
theorem dX6_goValve_44 : decode cX6_goValve 44 = .ok (.iconst 5, 1) := by decide +kernel
theorem dX6_goValve_45 : decode cX6_goValve 45 = .ok (.iaload, 1) := by decide +kernel
theorem dX6_goValve_46 : decode cX6_goValve 46 = .ok (.isub, 1) := by decide +kernel
theorem dX6_goValve_47 : decode cX6_goValve 47 = .ok (.istore_n 1, 1) := by decide +kernel
theorem dX6_goValve_48 : decode cX6_goValve 48 = .ok (.aload_n 0, 1) := by decide +kernel
theorem dX6_goValve_49 : decode cX6_goValve 49 = .ok (.bipush 14, 2) := by decide +kernel
theorem dX6_goValve_51 : decode cX6_goValve 51 = .ok (.iaload, 1) := by decide +kernel
theorem dX6_goValve_52 : decode cX6_goValve 52 = .ok (.istore_n 2, 1) := by decide +kernel
theorem dX6_goValve_53 : decode cX6_goValve 53 = .ok (.aload_n 0, 1) := by decide +kernel
theorem dX6_goValve_54 : decode cX6_goValve 54 = .ok (.iconst 5, 1) := by decide +kernel
theorem dX6_goValve_55 : decode cX6_goValve 55 = .ok (.dup2, 1) := by decide +kernel
theorem dX6_goValve_56 : decode cX6_goValve 56 = .ok (.iaload, 1) := by decide +kernel
theorem dX6_goValve_57 : decode cX6_goValve 57 = .ok (.iload_n 1, 1) := by decide +kernel
theorem dX6_goValve_58 : decode cX6_goValve 58 = .ok (.iload_n 2, 1) := by decide +kernel
theorem dX6_goValve_59 : decode cX6_goValve 59 = .ok (.if_icmp .le 7, 3) := by decide +kernel
theorem dX6_goValve_62 : decode cX6_goValve 62 = .ok (.iload_n 2, 1) := by decide +kernel
theorem dX6_goValve_63 : decode cX6_goValve 63 = .ok (.goto 15, 3) := by decide +kernel
theorem dX6_goValve_66 : decode cX6_goValve 66 = .ok (.iload_n 1, 1) := by decide +kernel
theorem dX6_goValve_67 : decode cX6_goValve 67 = .ok (.iload_n 2, 1) := by decide +kernel
theorem dX6_goValve_68 : decode cX6_goValve 68 = .ok (.ineg, 1) := by decide +kernel
theorem dX6_goValve_69 : decode cX6_goValve 69 = .ok (.if_icmp .ge 8, 3) := by decide +kernel
theorem dX6_goValve_72 : decode cX6_goValve 72 = .ok (.iload_n 2, 1) := by decide +kernel
theorem dX6_goValve_73 : decode cX6_goValve 73 = .ok (.ineg, 1) := by decide +kernel
theorem dX6_goValve_74 : decode cX6_goValve 74 = .ok (.goto 4, 3) := by decide +kernel
theorem dX6_goValve_77 : decode cX6_goValve 77 = .ok (.iload_n 1, 1) := by decide +kernel
theorem dX6_goValve_78 : decode cX6_goValve 78 = .ok (.iadd, 1) := by decide +kernel
theorem dX6_goValve_79 : decode cX6_goValve 79 = .ok (.iastore, 1) := by decide +kernel
theorem dX6_goValve_80 : decode cX6_goValve 80 = .ok (.return_, 1) := by decide +kernel
theorem dX6_goMixing_0 : decode cX6_goMixing 0 = .ok (.aload_n 0, 1) := by decide +kernel
theorem dX6_goMixing_1 : decode cX6_goMixing 1 = .ok (.iconst 0, 1) := by decide +kernel
theorem dX6_goMixing_2 : decode cX6_goMixing 2 = .ok (.invokestatic 73, 3) := by decide +kernel
theorem dX6_goMixing_5 : decode cX6_goMixing 5 = .ok (.aload_n 0, 1) := by decide +kernel
theorem dX6_goMixing_6 : decode cX6_goMixing 6 = .ok (.iconst 1, 1) := by decide +kernel
theorem dX6_goMixing_7 : decode cX6_goMixing 7 = .ok (.invokestatic 73, 3) := by decide +kernel
theorem dX6_goMixing_10 : decode cX6_goMixing 10 = .ok (.isub, 1) := by decide +kernel
theorem dX6_goMixing_11 : decode cX6_goMixing 11 = .ok (.istore_n 1, 1) := by decide +kernel
theorem dX6_goMixing_12 : decode cX6_goMixing 12 = .ok (.iload_n 1, 1) := by decide +kernel
theorem dX6_goMixing_13 : decode cX6_goMixing 13 = .ok (.ifCond .le 22, 3) := by decide +kernel
theorem dX6_goMixing_16 : decode cX6_goMixing 16 = .ok (.aload_n 0, 1) := by decide +kernel
theorem dX6_goMixing_17 : decode cX6_goMixing 17 = .ok (.iconst 0, 1) := by decide +kernel
theorem dX6_goMixing_18 : decode cX6_goMixing 18 = .ok (.iconst 1, 1) := by decide +kernel
theorem dX6_goMixing_19 : decode cX6_goMixing 19 = .ok (.aload_n 0, 1) := by decide +kernel
theorem dX6_goMixing_20 : decode cX6_goMixing 20 = .ok (.bipush 15, 2) := by decide +kernel
theorem dX6_goMixing_22 : decode cX6_goMixing 22 = .ok (.iaload, 1) := by decide +kernel
theorem dX6_goMixing_23 : decode cX6_goMixing 23 = .ok (.aload_n 0, 1) := by decide +kernel
theorem dX6_goMixing_24 : decode cX6_goMixing 24 = .ok (.iconst 5, 1) := by decide +kernel
theorem dX6_goMixing_25 : decode cX6_goMixing 25 = .ok (.iaload, 1) := by decide +kernel
theorem dX6_goMixing_26 : decode cX6_goMixing 26 = .ok (.imul, 1) := by decide +kernel
theorem dX6_goMixing_27 : decode cX6_goMixing 27 = .ok (.iload_n 1, 1) := by decide +kernel
theorem dX6_goMixing_28 : decode cX6_goMixing 28 = .ok (.imul, 1) := by decide +kernel
theorem dX6_goMixing_29 : decode cX6_goMixing 29 = .ok (.bipush 100, 2) := by decide +kernel
theorem dX6_goMixing_31 : decode cX6_goMixing 31 = .ok (.idiv, 1) := by decide +kernel
theorem dX6_goMixing_32 : decode cX6_goMixing 32 = .ok (.invokestatic 69, 3) := by decide +kernel
theorem dX6_goMixing_35 : decode cX6_goMixing 35 = .ok (.return_, 1) := by decide +kernel
theorem dX6_goRadiators_0 : decode cX6_goRadiators 0 = .ok (.aload_n 0, 1) := by decide +kernel
theorem dX6_goRadiators_1 : decode cX6_goRadiators 1 = .ok (.iconst 2, 1) := by decide +kernel
theorem dX6_goRadiators_2 : decode cX6_goRadiators 2 = .ok (.iload_n 1, 1) := by decide +kernel
theorem dX6_goRadiators_3 : decode cX6_goRadiators 3 = .ok (.iadd, 1) := by decide +kernel
theorem dX6_goRadiators_4 : decode cX6_goRadiators 4 = .ok (.invokestatic 73, 3) := by decide +kernel
theorem dX6_goRadiators_7 : decode cX6_goRadiators 7 = .ok (.istore_n 2, 1) := by decide +kernel
theorem dX6_goRadiators_8 : decode cX6_goRadiators 8 = .ok (.aload_n 0, 1) := by decide +kernel
theorem dX6_goRadiators_9 : decode cX6_goRadiators 9 = .ok (.iconst 1, 1) := by decide +kernel
theorem dX6_goRadiators_10 : decode cX6_goRadiators 10 = .ok (.invokestatic 73, 3) := by decide +kernel
theorem dX6_goRadiators_13 : decode cX6_goRadiators 13 = .ok (.iload_n 2, 1) := by decide +kernel
theorem dX6_goRadiators_14 : decode cX6_goRadiators 14 = .ok (.isub, 1) := by decide +kernel
theorem dX6_goRadiators_15 : decode cX6_goRadiators 15 = .ok (.istore_n 3, 1) := by decide +kernel
theorem dX6_goRadiators_16 : decode cX6_goRadiators 16 = .ok (.iload_n 2, 1) := by decide +kernel
theorem dX6_goRadiators_17 : decode cX6_goRadiators 17 = .ok (.aload_n 0, 1) := by decide +kernel
theorem dX6_goRadiators_18 : decode cX6_goRadiators 18 = .ok (.iload_n 1, 1) := by decide +kernel
theorem dX6_goRadiators_19 : decode cX6_goRadiators 19 = .ok (.iconst 1, 1) := by decide +kernel
theorem dX6_goRadiators_20 : decode cX6_goRadiators 20 = .ok (.invokestatic 53, 3) := by decide +kernel
theorem dX6_goRadiators_23 : decode cX6_goRadiators 23 = .ok (.iaload, 1) := by decide +kernel
theorem dX6_goRadiators_24 : decode cX6_goRadiators 24 = .ok (.if_icmp .ge 40, 3) := by decide +kernel
theorem dX6_goRadiators_27 : decode cX6_goRadiators 27 = .ok (.iload_n 3, 1) := by decide +kernel
theorem dX6_goRadiators_28 : decode cX6_goRadiators 28 = .ok (.ifCond .le 36, 3) := by decide +kernel
theorem dX6_goRadiators_31 : decode cX6_goRadiators 31 = .ok (.aload_n 0, 1) := by decide +kernel
theorem dX6_goRadiators_32 : decode cX6_goRadiators 32 = .ok (.iload_n 1, 1) := by decide +kernel
theorem dX6_goRadiators_33 : decode cX6_goRadiators 33 = .ok (.iconst 2, 1) := by decide +kernel
theorem dX6_goRadiators_34 : decode cX6_goRadiators 34 = .ok (.invokestatic 53, 3) := by decide +kernel
theorem dX6_goRadiators_37 : decode cX6_goRadiators 37 = .ok (.iaload, 1) := by decide +kernel
theorem dX6_goRadiators_38 : decode cX6_goRadiators 38 = .ok (.iload_n 3, 1) := by decide +kernel
theorem dX6_goRadiators_39 : decode cX6_goRadiators 39 = .ok (.imul, 1) := by decide +kernel
theorem dX6_goRadiators_40 : decode cX6_goRadiators 40 = .ok (.iconst 4, 1) := by decide +kernel
theorem dX6_goRadiators_41 : decode cX6_goRadiators 41 = .ok (.idiv, 1) := by decide +kernel
theorem dX6_goRadiators_42 : decode cX6_goRadiators 42 = .ok (.istore 4, 2) := by decide +kernel
theorem dX6_goRadiators_44 : decode cX6_goRadiators 44 = .ok (.aload_n 0, 1) := by decide +kernel
theorem dX6_goRadiators_45 : decode cX6_goRadiators 45 = .ok (.iconst 1, 1) := by decide +kernel
theorem dX6_goRadiators_46 : decode cX6_goRadiators 46 = .ok (.iconst 2, 1) := by decide +kernel
theorem dX6_goRadiators_47 : decode cX6_goRadiators 47 = .ok (.iload_n 1, 1) := by decide +kernel
theorem dX6_goRadiators_48 : decode cX6_goRadiators 48 = .ok (.iadd, 1) := by decide +kernel
theorem dX6_goRadiators_49 : decode cX6_goRadiators 49 = .ok (.iload 4, 2) := by decide +kernel
theorem dX6_goRadiators_51 : decode cX6_goRadiators 51 = .ok (.iconst 1, 1) := by decide +kernel
theorem dX6_goRadiators_52 : decode cX6_goRadiators 52 = .ok (.if_icmp .ge 7, 3) := by decide +kernel
theorem dX6_goRadiators_55 : decode cX6_goRadiators 55 = .ok (.iconst 1, 1) := by decide +kernel
theorem dX6_goRadiators_56 : decode cX6_goRadiators 56 = .ok (.goto 5, 3) := by decide +kernel
theorem dX6_goRadiators_59 : decode cX6_goRadiators 59 = .ok (.iload 4, 2) := by decide +kernel
theorem dX6_goRadiators_61 : decode cX6_goRadiators 61 = .ok (.invokestatic 69, 3) := by decide +kernel
theorem dX6_goRadiators_64 : decode cX6_goRadiators 64 = .ok (.return_, 1) := by decide +kernel
theorem dX6_goLeak_0 : decode cX6_goLeak 0 = .ok (.aload_n 0, 1) := by decide +kernel
theorem dX6_goLeak_1 : decode cX6_goLeak 1 = .ok (.iload_n 1, 1) := by decide +kernel
theorem dX6_goLeak_2 : decode cX6_goLeak 2 = .ok (.iconst 3, 1) := by decide +kernel
theorem dX6_goLeak_3 : decode cX6_goLeak 3 = .ok (.invokestatic 53, 3) := by decide +kernel
theorem dX6_goLeak_6 : decode cX6_goLeak 6 = .ok (.iaload, 1) := by decide +kernel
theorem dX6_goLeak_7 : decode cX6_goLeak 7 = .ok (.aload_n 0, 1) := by decide +kernel
theorem dX6_goLeak_8 : decode cX6_goLeak 8 = .ok (.iload_n 1, 1) := by decide +kernel
theorem dX6_goLeak_9 : decode cX6_goLeak 9 = .ok (.iconst 4, 1) := by decide +kernel
theorem dX6_goLeak_10 : decode cX6_goLeak 10 = .ok (.invokestatic 53, 3) := by decide +kernel
theorem dX6_goLeak_13 : decode cX6_goLeak 13 = .ok (.iaload, 1) := by decide +kernel
theorem dX6_goLeak_14 : decode cX6_goLeak 14 = .ok (.iconst 1, 1) := by decide +kernel
theorem dX6_goLeak_15 : decode cX6_goLeak 15 = .ok (.if_icmp .ne 7, 3) := by decide +kernel
theorem dX6_goLeak_18 : decode cX6_goLeak 18 = .ok (.iconst 3, 1) := by decide +kernel
theorem dX6_goLeak_19 : decode cX6_goLeak 19 = .ok (.goto 4, 3) := by decide +kernel
theorem dX6_goLeak_22 : decode cX6_goLeak 22 = .ok (.iconst 1, 1) := by decide +kernel
theorem dX6_goLeak_23 : decode cX6_goLeak 23 = .ok (.imul, 1) := by decide +kernel
theorem dX6_goLeak_24 : decode cX6_goLeak 24 = .ok (.istore_n 2, 1) := by decide +kernel
theorem dX6_goLeak_25 : decode cX6_goLeak 25 = .ok (.iload_n 2, 1) := by decide +kernel
theorem dX6_goLeak_26 : decode cX6_goLeak 26 = .ok (.aload_n 0, 1) := by decide +kernel
theorem dX6_goLeak_27 : decode cX6_goLeak 27 = .ok (.iconst 2, 1) := by decide +kernel
theorem dX6_goLeak_28 : decode cX6_goLeak 28 = .ok (.iload_n 1, 1) := by decide +kernel
theorem dX6_goLeak_29 : decode cX6_goLeak 29 = .ok (.iadd, 1) := by decide +kernel
theorem dX6_goLeak_30 : decode cX6_goLeak 30 = .ok (.invokestatic 73, 3) := by decide +kernel
theorem dX6_goLeak_33 : decode cX6_goLeak 33 = .ok (.aload_n 0, 1) := by decide +kernel
theorem dX6_goLeak_34 : decode cX6_goLeak 34 = .ok (.iconst 2, 1) := by decide +kernel
theorem dX6_goLeak_35 : decode cX6_goLeak 35 = .ok (.iaload, 1) := by decide +kernel
theorem dX6_goLeak_36 : decode cX6_goLeak 36 = .ok (.isub, 1) := by decide +kernel
theorem dX6_goLeak_37 : decode cX6_goLeak 37 = .ok (.imul, 1) := by decide +kernel
theorem dX6_goLeak_38 : decode cX6_goLeak 38 = .ok (.bipush 8, 2) := by decide +kernel
theorem dX6_goLeak_40 : decode cX6_goLeak 40 = .ok (.invokestatic 61, 3) := by decide +kernel
theorem dX6_goLeak_43 : decode cX6_goLeak 43 = .ok (.istore_n 3, 1) := by decide +kernel
theorem dX6_goLeak_44 : decode cX6_goLeak 44 = .ok (.aload_n 0, 1) := by decide +kernel
theorem dX6_goLeak_45 : decode cX6_goLeak 45 = .ok (.iconst 2, 1) := by decide +kernel
theorem dX6_goLeak_46 : decode cX6_goLeak 46 = .ok (.iload_n 1, 1) := by decide +kernel
theorem dX6_goLeak_47 : decode cX6_goLeak 47 = .ok (.iadd, 1) := by decide +kernel
theorem dX6_goLeak_48 : decode cX6_goLeak 48 = .ok (.bipush 8, 2) := by decide +kernel
theorem dX6_goLeak_50 : decode cX6_goLeak 50 = .ok (.iload_n 3, 1) := by decide +kernel
theorem dX6_goLeak_51 : decode cX6_goLeak 51 = .ok (.invokestatic 69, 3) := by decide +kernel
theorem dX6_goLeak_54 : decode cX6_goLeak 54 = .ok (.aload_n 0, 1) := by decide +kernel
theorem dX6_goLeak_55 : decode cX6_goLeak 55 = .ok (.bipush 8, 2) := by decide +kernel
theorem dX6_goLeak_57 : decode cX6_goLeak 57 = .ok (.iconst 2, 1) := by decide +kernel
theorem dX6_goLeak_58 : decode cX6_goLeak 58 = .ok (.iload_n 1, 1) := by decide +kernel
theorem dX6_goLeak_59 : decode cX6_goLeak 59 = .ok (.iadd, 1) := by decide +kernel
theorem dX6_goLeak_60 : decode cX6_goLeak 60 = .ok (.iload_n 3, 1) := by decide +kernel
theorem dX6_goLeak_61 : decode cX6_goLeak 61 = .ok (.ineg, 1) := by decide +kernel
theorem dX6_goLeak_62 : decode cX6_goLeak 62 = .ok (.invokestatic 69, 3) := by decide +kernel
theorem dX6_goLeak_65 : decode cX6_goLeak 65 = .ok (.return_, 1) := by decide +kernel
theorem dX6_feels_0 : decode cX6_feels 0 = .ok (.aload_n 0, 1) := by decide +kernel
theorem dX6_feels_1 : decode cX6_feels 1 = .ok (.iconst 2, 1) := by decide +kernel
theorem dX6_feels_2 : decode cX6_feels 2 = .ok (.iload_n 1, 1) := by decide +kernel
theorem dX6_feels_3 : decode cX6_feels 3 = .ok (.iadd, 1) := by decide +kernel
theorem dX6_feels_4 : decode cX6_feels 4 = .ok (.invokestatic 73, 3) := by decide +kernel
theorem dX6_feels_7 : decode cX6_feels 7 = .ok (.istore_n 2, 1) := by decide +kernel
theorem dX6_feels_8 : decode cX6_feels 8 = .ok (.aload_n 0, 1) := by decide +kernel
theorem dX6_feels_9 : decode cX6_feels 9 = .ok (.iload_n 1, 1) := by decide +kernel
theorem dX6_feels_10 : decode cX6_feels 10 = .ok (.iconst 1, 1) := by decide +kernel
theorem dX6_feels_11 : decode cX6_feels 11 = .ok (.invokestatic 53, 3) := by decide +kernel
theorem dX6_feels_14 : decode cX6_feels 14 = .ok (.iaload, 1) := by decide +kernel
theorem dX6_feels_15 : decode cX6_feels 15 = .ok (.istore_n 3, 1) := by decide +kernel
theorem dX6_feels_16 : decode cX6_feels 16 = .ok (.iload_n 2, 1) := by decide +kernel
theorem dX6_feels_17 : decode cX6_feels 17 = .ok (.iload_n 3, 1) := by decide +kernel
theorem dX6_feels_18 : decode cX6_feels 18 = .ok (.iconst 1, 1) := by decide +kernel
theorem dX6_feels_19 : decode cX6_feels 19 = .ok (.isub, 1) := by decide +kernel
theorem dX6_feels_20 : decode cX6_feels 20 = .ok (.if_icmp .ge 8, 3) := by decide +kernel
theorem dX6_feels_23 : decode cX6_feels 23 = .ok (.bipush 6, 2) := by decide +kernel
theorem dX6_feels_25 : decode cX6_feels 25 = .ok (.goto 16, 3) := by decide +kernel
theorem dX6_feels_28 : decode cX6_feels 28 = .ok (.iload_n 2, 1) := by decide +kernel
theorem dX6_feels_29 : decode cX6_feels 29 = .ok (.iload_n 3, 1) := by decide +kernel
theorem dX6_feels_30 : decode cX6_feels 30 = .ok (.iconst 2, 1) := by decide +kernel
theorem dX6_feels_31 : decode cX6_feels 31 = .ok (.iadd, 1) := by decide +kernel
theorem dX6_feels_32 : decode cX6_feels 32 = .ok (.if_icmp .le 8, 3) := by decide +kernel
theorem dX6_feels_35 : decode cX6_feels 35 = .ok (.bipush 7, 2) := by decide +kernel
theorem dX6_feels_37 : decode cX6_feels 37 = .ok (.goto 4, 3) := by decide +kernel
theorem dX6_feels_40 : decode cX6_feels 40 = .ok (.iconst 5, 1) := by decide +kernel
theorem dX6_feels_41 : decode cX6_feels 41 = .ok (.istore 4, 2) := by decide +kernel
theorem dX6_feels_43 : decode cX6_feels 43 = .ok (.aload_n 0, 1) := by decide +kernel
theorem dX6_feels_44 : decode cX6_feels 44 = .ok (.iload_n 1, 1) := by decide +kernel
theorem dX6_feels_45 : decode cX6_feels 45 = .ok (.iload 4, 2) := by decide +kernel
theorem dX6_feels_47 : decode cX6_feels 47 = .ok (.invokestatic 53, 3) := by decide +kernel
theorem dX6_feels_50 : decode cX6_feels 50 = .ok (.dup2, 1) := by decide +kernel
theorem dX6_feels_51 : decode cX6_feels 51 = .ok (.iaload, 1) := by decide +kernel
theorem dX6_feels_52 : decode cX6_feels 52 = .ok (.iconst 1, 1) := by decide +kernel
theorem dX6_feels_53 : decode cX6_feels 53 = .ok (.iadd, 1) := by decide +kernel
theorem dX6_feels_54 : decode cX6_feels 54 = .ok (.iastore, 1) := by decide +kernel
theorem dX6_feels_55 : decode cX6_feels 55 = .ok (.iload 4, 2) := by decide +kernel
theorem dX6_feels_57 : decode cX6_feels 57 = .ok (.iconst 5, 1) := by decide +kernel
theorem dX6_feels_58 : decode cX6_feels 58 = .ok (.if_icmp .ne 7, 3) := by decide +kernel
theorem dX6_feels_61 : decode cX6_feels 61 = .ok (.iconst 1, 1) := by decide +kernel
theorem dX6_feels_62 : decode cX6_feels 62 = .ok (.goto 4, 3) := by decide +kernel
theorem dX6_feels_65 : decode cX6_feels 65 = .ok (.iconst 0, 1) := by decide +kernel
theorem dX6_feels_66 : decode cX6_feels 66 = .ok (.ireturn, 1) := by decide +kernel
theorem dX6_goMinute_0 : decode cX6_goMinute 0 = .ok (.aload_n 0, 1) := by decide +kernel
theorem dX6_goMinute_1 : decode cX6_goMinute 1 = .ok (.invokestatic 91, 3) := by decide +kernel
theorem dX6_goMinute_4 : decode cX6_goMinute 4 = .ok (.aload_n 0, 1) := by decide +kernel
theorem dX6_goMinute_5 : decode cX6_goMinute 5 = .ok (.invokestatic 94, 3) := by decide +kernel
theorem dX6_goMinute_8 : decode cX6_goMinute 8 = .ok (.aload_n 0, 1) := by decide +kernel
theorem dX6_goMinute_9 : decode cX6_goMinute 9 = .ok (.invokestatic 97, 3) := by decide +kernel
theorem dX6_goMinute_12 : decode cX6_goMinute 12 = .ok (.aload_n 0, 1) := by decide +kernel
theorem dX6_goMinute_13 : decode cX6_goMinute 13 = .ok (.invokestatic 100, 3) := by decide +kernel
theorem dX6_goMinute_16 : decode cX6_goMinute 16 = .ok (.iconst 0, 1) := by decide +kernel
theorem dX6_goMinute_17 : decode cX6_goMinute 17 = .ok (.istore_n 1, 1) := by decide +kernel
theorem dX6_goMinute_18 : decode cX6_goMinute 18 = .ok (.iload_n 1, 1) := by decide +kernel
theorem dX6_goMinute_19 : decode cX6_goMinute 19 = .ok (.aload_n 0, 1) := by decide +kernel
theorem dX6_goMinute_20 : decode cX6_goMinute 20 = .ok (.iconst 0, 1) := by decide +kernel
theorem dX6_goMinute_21 : decode cX6_goMinute 21 = .ok (.iaload, 1) := by decide +kernel
theorem dX6_goMinute_22 : decode cX6_goMinute 22 = .ok (.if_icmp .ge 14, 3) := by decide +kernel
theorem dX6_goMinute_25 : decode cX6_goMinute 25 = .ok (.aload_n 0, 1) := by decide +kernel
theorem dX6_goMinute_26 : decode cX6_goMinute 26 = .ok (.iload_n 1, 1) := by decide +kernel
theorem dX6_goMinute_27 : decode cX6_goMinute 27 = .ok (.invokestatic 103, 3) := by decide +kernel
theorem dX6_goMinute_30 : decode cX6_goMinute 30 = .ok (.iinc 1 1, 3) := by decide +kernel
theorem dX6_goMinute_33 : decode cX6_goMinute 33 = .ok (.goto (-15), 3) := by decide +kernel
theorem dX6_goMinute_36 : decode cX6_goMinute 36 = .ok (.iconst 0, 1) := by decide +kernel
theorem dX6_goMinute_37 : decode cX6_goMinute 37 = .ok (.istore_n 1, 1) := by decide +kernel
theorem dX6_goMinute_38 : decode cX6_goMinute 38 = .ok (.iload_n 1, 1) := by decide +kernel
theorem dX6_goMinute_39 : decode cX6_goMinute 39 = .ok (.aload_n 0, 1) := by decide +kernel
theorem dX6_goMinute_40 : decode cX6_goMinute 40 = .ok (.iconst 0, 1) := by decide +kernel
theorem dX6_goMinute_41 : decode cX6_goMinute 41 = .ok (.iaload, 1) := by decide +kernel
theorem dX6_goMinute_42 : decode cX6_goMinute 42 = .ok (.if_icmp .ge 14, 3) := by decide +kernel
theorem dX6_goMinute_45 : decode cX6_goMinute 45 = .ok (.aload_n 0, 1) := by decide +kernel
theorem dX6_goMinute_46 : decode cX6_goMinute 46 = .ok (.iload_n 1, 1) := by decide +kernel
theorem dX6_goMinute_47 : decode cX6_goMinute 47 = .ok (.invokestatic 106, 3) := by decide +kernel
theorem dX6_goMinute_50 : decode cX6_goMinute 50 = .ok (.iinc 1 1, 3) := by decide +kernel
theorem dX6_goMinute_53 : decode cX6_goMinute 53 = .ok (.goto (-15), 3) := by decide +kernel
theorem dX6_goMinute_56 : decode cX6_goMinute 56 = .ok (.iconst 0, 1) := by decide +kernel
theorem dX6_goMinute_57 : decode cX6_goMinute 57 = .ok (.istore_n 1, 1) := by decide +kernel
theorem dX6_goMinute_58 : decode cX6_goMinute 58 = .ok (.iconst 0, 1) := by decide +kernel
theorem dX6_goMinute_59 : decode cX6_goMinute 59 = .ok (.istore_n 2, 1) := by decide +kernel
theorem dX6_goMinute_60 : decode cX6_goMinute 60 = .ok (.iload_n 2, 1) := by decide +kernel
theorem dX6_goMinute_61 : decode cX6_goMinute 61 = .ok (.aload_n 0, 1) := by decide +kernel
theorem dX6_goMinute_62 : decode cX6_goMinute 62 = .ok (.iconst 0, 1) := by decide +kernel
theorem dX6_goMinute_63 : decode cX6_goMinute 63 = .ok (.iaload, 1) := by decide +kernel
theorem dX6_goMinute_64 : decode cX6_goMinute 64 = .ok (.if_icmp .ge 25, 3) := by decide +kernel
theorem dX6_goMinute_67 : decode cX6_goMinute 67 = .ok (.iload_n 1, 1) := by decide +kernel
theorem dX6_goMinute_68 : decode cX6_goMinute 68 = .ok (.aload_n 0, 1) := by decide +kernel
theorem dX6_goMinute_69 : decode cX6_goMinute 69 = .ok (.iload_n 2, 1) := by decide +kernel
theorem dX6_goMinute_70 : decode cX6_goMinute 70 = .ok (.invokestatic 109, 3) := by decide +kernel
theorem dX6_goMinute_73 : decode cX6_goMinute 73 = .ok (.ifCond .eq 7, 3) := by decide +kernel
theorem dX6_goMinute_76 : decode cX6_goMinute 76 = .ok (.iconst 1, 1) := by decide +kernel
theorem dX6_goMinute_77 : decode cX6_goMinute 77 = .ok (.goto 4, 3) := by decide +kernel
theorem dX6_goMinute_80 : decode cX6_goMinute 80 = .ok (.iconst 0, 1) := by decide +kernel
theorem dX6_goMinute_81 : decode cX6_goMinute 81 = .ok (.iadd, 1) := by decide +kernel
theorem dX6_goMinute_82 : decode cX6_goMinute 82 = .ok (.istore_n 1, 1) := by decide +kernel
theorem dX6_goMinute_83 : decode cX6_goMinute 83 = .ok (.iinc 2 1, 3) := by decide +kernel
theorem dX6_goMinute_86 : decode cX6_goMinute 86 = .ok (.goto (-26), 3) := by decide +kernel
theorem dX6_goMinute_89 : decode cX6_goMinute 89 = .ok (.aload_n 0, 1) := by decide +kernel
theorem dX6_goMinute_90 : decode cX6_goMinute 90 = .ok (.iconst 1, 1) := by decide +kernel
theorem dX6_goMinute_91 : decode cX6_goMinute 91 = .ok (.dup2, 1) := by decide +kernel
theorem dX6_goMinute_92 : decode cX6_goMinute 92 = .ok (.iaload, 1) := by decide +kernel
theorem dX6_goMinute_93 : decode cX6_goMinute 93 = .ok (.iconst 1, 1) := by decide +kernel
theorem dX6_goMinute_94 : decode cX6_goMinute 94 = .ok (.iadd, 1) := by decide +kernel
theorem dX6_goMinute_95 : decode cX6_goMinute 95 = .ok (.iastore, 1) := by decide +kernel
theorem dX6_goMinute_96 : decode cX6_goMinute 96 = .ok (.iload_n 1, 1) := by decide +kernel
theorem dX6_goMinute_97 : decode cX6_goMinute 97 = .ok (.ireturn, 1) := by decide +kernel
theorem dX6_goMinutes_0 : decode cX6_goMinutes 0 = .ok (.iconst 0, 1) := by decide +kernel
theorem dX6_goMinutes_1 : decode cX6_goMinutes 1 = .ok (.istore_n 2, 1) := by decide +kernel
theorem dX6_goMinutes_2 : decode cX6_goMinutes 2 = .ok (.iconst 0, 1) := by decide +kernel
theorem dX6_goMinutes_3 : decode cX6_goMinutes 3 = .ok (.istore_n 3, 1) := by decide +kernel
theorem dX6_goMinutes_4 : decode cX6_goMinutes 4 = .ok (.iload_n 3, 1) := by decide +kernel
theorem dX6_goMinutes_5 : decode cX6_goMinutes 5 = .ok (.iload_n 1, 1) := by decide +kernel
theorem dX6_goMinutes_6 : decode cX6_goMinutes 6 = .ok (.if_icmp .ge 16, 3) := by decide +kernel
theorem dX6_goMinutes_9 : decode cX6_goMinutes 9 = .ok (.iload_n 2, 1) := by decide +kernel
theorem dX6_goMinutes_10 : decode cX6_goMinutes 10 = .ok (.aload_n 0, 1) := by decide +kernel
theorem dX6_goMinutes_11 : decode cX6_goMinutes 11 = .ok (.invokestatic 113, 3) := by decide +kernel
theorem dX6_goMinutes_14 : decode cX6_goMinutes 14 = .ok (.iadd, 1) := by decide +kernel
theorem dX6_goMinutes_15 : decode cX6_goMinutes 15 = .ok (.istore_n 2, 1) := by decide +kernel
theorem dX6_goMinutes_16 : decode cX6_goMinutes 16 = .ok (.iinc 3 1, 3) := by decide +kernel
theorem dX6_goMinutes_19 : decode cX6_goMinutes 19 = .ok (.goto (-15), 3) := by decide +kernel
theorem dX6_goMinutes_22 : decode cX6_goMinutes 22 = .ok (.iload_n 2, 1) := by decide +kernel
theorem dX6_goMinutes_23 : decode cX6_goMinutes 23 = .ok (.ireturn, 1) := by decide +kernel
theorem dX6_append_0 : decode cX6_append 0 = .ok (.aload_n 0, 1) := by decide +kernel
theorem dX6_append_1 : decode cX6_append 1 = .ok (.iload_n 1, 1) := by decide +kernel
theorem dX6_append_2 : decode cX6_append 2 = .ok (.i2l, 1) := by decide +kernel
theorem dX6_append_3 : decode cX6_append 3 = .ok (.lconst 0, 1) := by decide +kernel
theorem dX6_append_4 : decode cX6_append 4 = .ok (.ldc2_w 116, 3) := by decide +kernel
theorem dX6_append_7 : decode cX6_append 7 = .ok (.invokestatic 49, 3) := by decide +kernel
theorem dX6_append_10 : decode cX6_append 10 = .ok (.ifCond .ne 7, 3) := by decide +kernel
theorem dX6_append_13 : decode cX6_append 13 = .ok (.iconst 1, 1) := by decide +kernel
theorem dX6_append_14 : decode cX6_append 14 = .ok (.goto 17, 3) := by decide +kernel
theorem dX6_append_17 : decode cX6_append 17 = .ok (.aload_n 0, 1) := by decide +kernel
theorem dX6_append_18 : decode cX6_append 18 = .ok (.getfield 118, 3) := by decide +kernel
theorem dX6_append_21 : decode cX6_append 21 = .ok (.bipush 80, 2) := by decide +kernel
theorem dX6_append_23 : decode cX6_append 23 = .ok (.if_icmp .ne 7, 3) := by decide +kernel
theorem dX6_append_26 : decode cX6_append 26 = .ok (.iconst 2, 1) := by decide +kernel
theorem dX6_append_27 : decode cX6_append 27 = .ok (.goto 4, 3) := by decide +kernel
theorem dX6_append_30 : decode cX6_append 30 = .ok (.iconst 0, 1) := by decide +kernel
theorem dX6_append_31 : decode cX6_append 31 = .ok (.invokevirtual 121, 3) := by decide +kernel
theorem dX6_append_34 : decode cX6_append 34 = .ok (.ifCond .eq 5, 3) := by decide +kernel
theorem dX6_append_37 : decode cX6_append 37 = .ok (.iconst 0, 1) := by decide +kernel
theorem dX6_append_38 : decode cX6_append 38 = .ok (.ireturn, 1) := by decide +kernel
theorem dX6_append_39 : decode cX6_append 39 = .ok (.aload_n 0, 1) := by decide +kernel
theorem dX6_append_40 : decode cX6_append 40 = .ok (.getfield 7, 3) := by decide +kernel
theorem dX6_append_43 : decode cX6_append 43 = .ok (.aload_n 0, 1) := by decide +kernel
theorem dX6_append_44 : decode cX6_append 44 = .ok (.getfield 118, 3) := by decide +kernel
theorem dX6_append_47 : decode cX6_append 47 = .ok (.iload_n 1, 1) := by decide +kernel
theorem dX6_append_48 : decode cX6_append 48 = .ok (.iastore, 1) := by decide +kernel
theorem dX6_append_49 : decode cX6_append 49 = .ok (.aload_n 0, 1) := by decide +kernel
theorem dX6_append_50 : decode cX6_append 50 = .ok (.dup, 1) := by decide +kernel
theorem dX6_append_51 : decode cX6_append 51 = .ok (.getfield 118, 3) := by decide +kernel
theorem dX6_append_54 : decode cX6_append 54 = .ok (.iconst 1, 1) := by decide +kernel
theorem dX6_append_55 : decode cX6_append 55 = .ok (.iadd, 1) := by decide +kernel
theorem dX6_append_56 : decode cX6_append 56 = .ok (.putfield 118, 3) := by decide +kernel
theorem dX6_append_59 : decode cX6_append 59 = .ok (.aload_n 0, 1) := by decide +kernel
theorem dX6_append_60 : decode cX6_append 60 = .ok (.getfield 118, 3) := by decide +kernel
theorem dX6_append_63 : decode cX6_append 63 = .ok (.ireturn, 1) := by decide +kernel
theorem dX6_clearText_0 : decode cX6_clearText 0 = .ok (.aload_n 0, 1) := by decide +kernel
theorem dX6_clearText_1 : decode cX6_clearText 1 = .ok (.iconst 0, 1) := by decide +kernel
theorem dX6_clearText_2 : decode cX6_clearText 2 = .ok (.putfield 36, 3) := by decide +kernel
theorem dX6_clearText_5 : decode cX6_clearText 5 = .ok (.aload_n 0, 1) := by decide +kernel
theorem dX6_clearText_6 : decode cX6_clearText 6 = .ok (.getfield 118, 3) := by decide +kernel
theorem dX6_clearText_9 : decode cX6_clearText 9 = .ok (.istore_n 1, 1) := by decide +kernel
theorem dX6_clearText_10 : decode cX6_clearText 10 = .ok (.aload_n 0, 1) := by decide +kernel
theorem dX6_clearText_11 : decode cX6_clearText 11 = .ok (.iconst 0, 1) := by decide +kernel
theorem dX6_clearText_12 : decode cX6_clearText 12 = .ok (.putfield 118, 3) := by decide +kernel
theorem dX6_clearText_15 : decode cX6_clearText 15 = .ok (.iload_n 1, 1) := by decide +kernel
theorem dX6_clearText_16 : decode cX6_clearText 16 = .ok (.ireturn, 1) := by decide +kernel
theorem dX6_isNext_0 : decode cX6_isNext 0 = .ok (.aload_n 0, 1) := by decide +kernel
theorem dX6_isNext_1 : decode cX6_isNext 1 = .ok (.getfield 125, 3) := by decide +kernel
theorem dX6_isNext_4 : decode cX6_isNext 4 = .ok (.aload_n 0, 1) := by decide +kernel
theorem dX6_isNext_5 : decode cX6_isNext 5 = .ok (.getfield 118, 3) := by decide +kernel
theorem dX6_isNext_8 : decode cX6_isNext 8 = .ok (.if_icmp .ge 20, 3) := by decide +kernel
theorem dX6_isNext_11 : decode cX6_isNext 11 = .ok (.aload_n 0, 1) := by decide +kernel
theorem dX6_isNext_12 : decode cX6_isNext 12 = .ok (.getfield 7, 3) := by decide +kernel
theorem dX6_isNext_15 : decode cX6_isNext 15 = .ok (.aload_n 0, 1) := by decide +kernel
theorem dX6_isNext_16 : decode cX6_isNext 16 = .ok (.getfield 125, 3) := by decide +kernel
theorem dX6_isNext_19 : decode cX6_isNext 19 = .ok (.iaload, 1) := by decide +kernel
theorem dX6_isNext_20 : decode cX6_isNext 20 = .ok (.iload_n 1, 1) := by decide +kernel
theorem dX6_isNext_21 : decode cX6_isNext 21 = .ok (.if_icmp .ne 7, 3) := by decide +kernel
theorem dX6_isNext_24 : decode cX6_isNext 24 = .ok (.iconst 1, 1) := by decide +kernel
theorem dX6_isNext_25 : decode cX6_isNext 25 = .ok (.goto 4, 3) := by decide +kernel
theorem dX6_isNext_28 : decode cX6_isNext 28 = .ok (.iconst 0, 1) := by decide +kernel
theorem dX6_isNext_29 : decode cX6_isNext 29 = .ok (.ireturn, 1) := by decide +kernel
theorem dX6_accept_0 : decode cX6_accept 0 = .ok (.aload_n 0, 1) := by decide +kernel
theorem dX6_accept_1 : decode cX6_accept 1 = .ok (.aload_n 0, 1) := by decide +kernel
theorem dX6_accept_2 : decode cX6_accept 2 = .ok (.getfield 128, 3) := by decide +kernel
theorem dX6_accept_5 : decode cX6_accept 5 = .ok (.ifCond .eq 11, 3) := by decide +kernel
theorem dX6_accept_8 : decode cX6_accept 8 = .ok (.iload_n 1, 1) := by decide +kernel
theorem dX6_accept_9 : decode cX6_accept 9 = .ok (.ifCond .eq 7, 3) := by decide +kernel
theorem dX6_accept_12 : decode cX6_accept 12 = .ok (.iconst 1, 1) := by decide +kernel
theorem dX6_accept_13 : decode cX6_accept 13 = .ok (.goto 4, 3) := by decide +kernel
theorem dX6_accept_16 : decode cX6_accept 16 = .ok (.iconst 0, 1) := by decide +kernel
theorem dX6_accept_17 : decode cX6_accept 17 = .ok (.putfield 128, 3) := by decide +kernel
theorem dX6_accept_20 : decode cX6_accept 20 = .ok (.aload_n 0, 1) := by decide +kernel
theorem dX6_accept_21 : decode cX6_accept 21 = .ok (.dup, 1) := by decide +kernel
theorem dX6_accept_22 : decode cX6_accept 22 = .ok (.getfield 125, 3) := by decide +kernel
theorem dX6_accept_25 : decode cX6_accept 25 = .ok (.aload_n 0, 1) := by decide +kernel
theorem dX6_accept_26 : decode cX6_accept 26 = .ok (.getfield 128, 3) := by decide +kernel
theorem dX6_accept_29 : decode cX6_accept 29 = .ok (.ifCond .eq 7, 3) := by decide +kernel
theorem dX6_accept_32 : decode cX6_accept 32 = .ok (.iconst 1, 1) := by decide +kernel
theorem dX6_accept_33 : decode cX6_accept 33 = .ok (.goto 4, 3) := by decide +kernel
theorem dX6_accept_36 : decode cX6_accept 36 = .ok (.iconst 0, 1) := by decide +kernel
theorem dX6_accept_37 : decode cX6_accept 37 = .ok (.iadd, 1) := by decide +kernel
theorem dX6_accept_38 : decode cX6_accept 38 = .ok (.putfield 125, 3) := by decide +kernel
theorem dX6_accept_41 : decode cX6_accept 41 = .ok (.return_, 1) := by decide +kernel
theorem dX6_digit_0 : decode cX6_digit 0 = .ok (.aload_n 0, 1) := by decide +kernel
theorem dX6_digit_1 : decode cX6_digit 1 = .ok (.getfield 125, 3) := by decide +kernel
theorem dX6_digit_4 : decode cX6_digit 4 = .ok (.aload_n 0, 1) := by decide +kernel
theorem dX6_digit_5 : decode cX6_digit 5 = .ok (.getfield 118, 3) := by decide +kernel
theorem dX6_digit_8 : decode cX6_digit 8 = .ok (.if_icmp .ge 18, 3) := by decide +kernel
theorem dX6_digit_11 : decode cX6_digit 11 = .ok (.aload_n 0, 1) := by decide +kernel
theorem dX6_digit_12 : decode cX6_digit 12 = .ok (.getfield 7, 3) := by decide +kernel
theorem dX6_digit_15 : decode cX6_digit 15 = .ok (.aload_n 0, 1) := by decide +kernel
theorem dX6_digit_16 : decode cX6_digit 16 = .ok (.getfield 125, 3) := by decide +kernel
theorem dX6_digit_19 : decode cX6_digit 19 = .ok (.iaload, 1) := by decide +kernel
theorem dX6_digit_20 : decode cX6_digit 20 = .ok (.bipush 48, 2) := by decide +kernel
theorem dX6_digit_22 : decode cX6_digit 22 = .ok (.isub, 1) := by decide +kernel
theorem dX6_digit_23 : decode cX6_digit 23 = .ok (.goto 5, 3) := by decide +kernel
theorem dX6_digit_26 : decode cX6_digit 26 = .ok (.ldc 64, 2) := by decide +kernel
theorem dX6_digit_28 : decode cX6_digit 28 = .ok (.istore_n 3, 1) := by decide +kernel
theorem dX6_digit_29 : decode cX6_digit 29 = .ok (.aload_n 0, 1) := by decide +kernel
theorem dX6_digit_30 : decode cX6_digit 30 = .ok (.iload_n 3, 1) := by decide +kernel
theorem dX6_digit_31 : decode cX6_digit 31 = .ok (.i2l, 1) := by decide +kernel
theorem dX6_digit_32 : decode cX6_digit 32 = .ok (.lconst 0, 1) := by decide +kernel
theorem dX6_digit_33 : decode cX6_digit 33 = .ok (.ldc2_w 132, 3) := by decide +kernel
theorem dX6_digit_36 : decode cX6_digit 36 = .ok (.invokestatic 49, 3) := by decide +kernel
theorem dX6_digit_39 : decode cX6_digit 39 = .ok (.ifCond .eq 19, 3) := by decide +kernel
theorem dX6_digit_42 : decode cX6_digit 42 = .ok (.iload_n 3, 1) := by decide +kernel
theorem dX6_digit_43 : decode cX6_digit 43 = .ok (.i2l, 1) := by decide +kernel
theorem dX6_digit_44 : decode cX6_digit 44 = .ok (.iload_n 1, 1) := by decide +kernel
theorem dX6_digit_45 : decode cX6_digit 45 = .ok (.i2l, 1) := by decide +kernel
theorem dX6_digit_46 : decode cX6_digit 46 = .ok (.iload_n 2, 1) := by decide +kernel
theorem dX6_digit_47 : decode cX6_digit 47 = .ok (.i2l, 1) := by decide +kernel
theorem dX6_digit_48 : decode cX6_digit 48 = .ok (.invokestatic 49, 3) := by decide +kernel
theorem dX6_digit_51 : decode cX6_digit 51 = .ok (.ifCond .eq 7, 3) := by decide +kernel
theorem dX6_digit_54 : decode cX6_digit 54 = .ok (.iconst 1, 1) := by decide +kernel
theorem dX6_digit_55 : decode cX6_digit 55 = .ok (.goto 4, 3) := by decide +kernel
theorem dX6_digit_58 : decode cX6_digit 58 = .ok (.iconst 0, 1) := by decide +kernel
theorem dX6_digit_59 : decode cX6_digit 59 = .ok (.invokevirtual 134, 3) := by decide +kernel
theorem dX6_digit_62 : decode cX6_digit 62 = .ok (.aload_n 0, 1) := by decide +kernel
theorem dX6_digit_63 : decode cX6_digit 63 = .ok (.getfield 128, 3) := by decide +kernel
theorem dX6_digit_66 : decode cX6_digit 66 = .ok (.ifCond .eq 7, 3) := by decide +kernel
theorem dX6_digit_69 : decode cX6_digit 69 = .ok (.iload_n 3, 1) := by decide +kernel
theorem dX6_digit_70 : decode cX6_digit 70 = .ok (.goto 4, 3) := by decide +kernel
theorem dX6_digit_73 : decode cX6_digit 73 = .ok (.iload_n 1, 1) := by decide +kernel
theorem dX6_digit_74 : decode cX6_digit 74 = .ok (.ireturn, 1) := by decide +kernel
theorem dX6_two_0 : decode cX6_two 0 = .ok (.aload_n 0, 1) := by decide +kernel
theorem dX6_two_1 : decode cX6_two 1 = .ok (.iload_n 1, 1) := by decide +kernel
theorem dX6_two_2 : decode cX6_two 2 = .ok (.bipush 10, 2) := by decide +kernel
theorem dX6_two_4 : decode cX6_two 4 = .ok (.idiv, 1) := by decide +kernel
theorem dX6_two_5 : decode cX6_two 5 = .ok (.iload_n 2, 1) := by decide +kernel
theorem dX6_two_6 : decode cX6_two 6 = .ok (.bipush 10, 2) := by decide +kernel
theorem dX6_two_8 : decode cX6_two 8 = .ok (.idiv, 1) := by decide +kernel
theorem dX6_two_9 : decode cX6_two 9 = .ok (.invokevirtual 138, 3) := by decide +kernel
theorem dX6_two_12 : decode cX6_two 12 = .ok (.istore_n 3, 1) := by decide +kernel
theorem dX6_two_13 : decode cX6_two 13 = .ok (.iload_n 1, 1) := by decide +kernel
theorem dX6_two_14 : decode cX6_two 14 = .ok (.bipush 10, 2) := by decide +kernel
theorem dX6_two_16 : decode cX6_two 16 = .ok (.iload_n 3, 1) := by decide +kernel
theorem dX6_two_17 : decode cX6_two 17 = .ok (.imul, 1) := by decide +kernel
theorem dX6_two_18 : decode cX6_two 18 = .ok (.isub, 1) := by decide +kernel
theorem dX6_two_19 : decode cX6_two 19 = .ok (.istore 4, 2) := by decide +kernel
theorem dX6_two_21 : decode cX6_two 21 = .ok (.iload_n 2, 1) := by decide +kernel
theorem dX6_two_22 : decode cX6_two 22 = .ok (.bipush 10, 2) := by decide +kernel
theorem dX6_two_24 : decode cX6_two 24 = .ok (.iload_n 3, 1) := by decide +kernel
theorem dX6_two_25 : decode cX6_two 25 = .ok (.imul, 1) := by decide +kernel
theorem dX6_two_26 : decode cX6_two 26 = .ok (.isub, 1) := by decide +kernel
theorem dX6_two_27 : decode cX6_two 27 = .ok (.istore 5, 2) := by decide +kernel
theorem dX6_two_29 : decode cX6_two 29 = .ok (.bipush 10, 2) := by decide +kernel
theorem dX6_two_31 : decode cX6_two 31 = .ok (.iload_n 3, 1) := by decide +kernel
theorem dX6_two_32 : decode cX6_two 32 = .ok (.imul, 1) := by decide +kernel
theorem dX6_two_33 : decode cX6_two 33 = .ok (.aload_n 0, 1) := by decide +kernel
theorem dX6_two_34 : decode cX6_two 34 = .ok (.iload 4, 2) := by decide +kernel
theorem dX6_two_36 : decode cX6_two 36 = .ok (.ifCond .ge 7, 3) := by decide +kernel
theorem dX6_two_39 : decode cX6_two 39 = .ok (.iconst 0, 1) := by decide +kernel
theorem dX6_two_40 : decode cX6_two 40 = .ok (.goto 5, 3) := by decide +kernel
theorem dX6_two_43 : decode cX6_two 43 = .ok (.iload 4, 2) := by decide +kernel
theorem dX6_two_45 : decode cX6_two 45 = .ok (.iload 5, 2) := by decide +kernel
theorem dX6_two_47 : decode cX6_two 47 = .ok (.bipush 9, 2) := by decide +kernel
theorem dX6_two_49 : decode cX6_two 49 = .ok (.if_icmp .le 8, 3) := by decide +kernel
theorem dX6_two_52 : decode cX6_two 52 = .ok (.bipush 9, 2) := by decide +kernel
theorem dX6_two_54 : decode cX6_two 54 = .ok (.goto 5, 3) := by decide +kernel
theorem dX6_two_57 : decode cX6_two 57 = .ok (.iload 5, 2) := by decide +kernel
theorem dX6_two_59 : decode cX6_two 59 = .ok (.invokevirtual 138, 3) := by decide +kernel
theorem dX6_two_62 : decode cX6_two 62 = .ok (.iadd, 1) := by decide +kernel
theorem dX6_two_63 : decode cX6_two 63 = .ok (.ireturn, 1) := by decide +kernel
theorem dX6_readRoom_0 : decode cX6_readRoom 0 = .ok (.aload_n 0, 1) := by decide +kernel
theorem dX6_readRoom_1 : decode cX6_readRoom 1 = .ok (.aload_n 0, 1) := by decide +kernel
theorem dX6_readRoom_2 : decode cX6_readRoom 2 = .ok (.getfield 13, 3) := by decide +kernel
theorem dX6_readRoom_5 : decode cX6_readRoom 5 = .ok (.iconst 0, 1) := by decide +kernel
theorem dX6_readRoom_6 : decode cX6_readRoom 6 = .ok (.iaload, 1) := by decide +kernel
theorem dX6_readRoom_7 : decode cX6_readRoom 7 = .ok (.bipush 6, 2) := by decide +kernel
theorem dX6_readRoom_9 : decode cX6_readRoom 9 = .ok (.if_icmp .ge 7, 3) := by decide +kernel
theorem dX6_readRoom_12 : decode cX6_readRoom 12 = .ok (.iconst 1, 1) := by decide +kernel
theorem dX6_readRoom_13 : decode cX6_readRoom 13 = .ok (.goto 4, 3) := by decide +kernel
theorem dX6_readRoom_16 : decode cX6_readRoom 16 = .ok (.iconst 0, 1) := by decide +kernel
theorem dX6_readRoom_17 : decode cX6_readRoom 17 = .ok (.invokevirtual 134, 3) := by decide +kernel
theorem dX6_readRoom_20 : decode cX6_readRoom 20 = .ok (.aload_n 0, 1) := by decide +kernel
theorem dX6_readRoom_21 : decode cX6_readRoom 21 = .ok (.iconst 1, 1) := by decide +kernel
theorem dX6_readRoom_22 : decode cX6_readRoom 22 = .ok (.bipush 9, 2) := by decide +kernel
theorem dX6_readRoom_24 : decode cX6_readRoom 24 = .ok (.invokevirtual 138, 3) := by decide +kernel
theorem dX6_readRoom_27 : decode cX6_readRoom 27 = .ok (.istore_n 1, 1) := by decide +kernel
theorem dX6_readRoom_28 : decode cX6_readRoom 28 = .ok (.aload_n 0, 1) := by decide +kernel
theorem dX6_readRoom_29 : decode cX6_readRoom 29 = .ok (.bipush 10, 2) := by decide +kernel
theorem dX6_readRoom_31 : decode cX6_readRoom 31 = .ok (.bipush 25, 2) := by decide +kernel
theorem dX6_readRoom_33 : decode cX6_readRoom 33 = .ok (.invokevirtual 141, 3) := by decide +kernel
theorem dX6_readRoom_36 : decode cX6_readRoom 36 = .ok (.istore_n 2, 1) := by decide +kernel
theorem dX6_readRoom_37 : decode cX6_readRoom 37 = .ok (.aload_n 0, 1) := by decide +kernel
theorem dX6_readRoom_38 : decode cX6_readRoom 38 = .ok (.iconst 1, 1) := by decide +kernel
theorem dX6_readRoom_39 : decode cX6_readRoom 39 = .ok (.bipush 9, 2) := by decide +kernel
theorem dX6_readRoom_41 : decode cX6_readRoom 41 = .ok (.invokevirtual 138, 3) := by decide +kernel
theorem dX6_readRoom_44 : decode cX6_readRoom 44 = .ok (.istore_n 3, 1) := by decide +kernel
theorem dX6_readRoom_45 : decode cX6_readRoom 45 = .ok (.aload_n 0, 1) := by decide +kernel
theorem dX6_readRoom_46 : decode cX6_readRoom 46 = .ok (.iconst 0, 1) := by decide +kernel
theorem dX6_readRoom_47 : decode cX6_readRoom 47 = .ok (.bipush 9, 2) := by decide +kernel
theorem dX6_readRoom_49 : decode cX6_readRoom 49 = .ok (.invokevirtual 138, 3) := by decide +kernel
theorem dX6_readRoom_52 : decode cX6_readRoom 52 = .ok (.istore 4, 2) := by decide +kernel
theorem dX6_readRoom_54 : decode cX6_readRoom 54 = .ok (.aload_n 0, 1) := by decide +kernel
theorem dX6_readRoom_55 : decode cX6_readRoom 55 = .ok (.getfield 128, 3) := by decide +kernel
theorem dX6_readRoom_58 : decode cX6_readRoom 58 = .ok (.ifCond .eq 15, 3) := by decide +kernel
theorem dX6_readRoom_61 : decode cX6_readRoom 61 = .ok (.aload_n 0, 1) := by decide +kernel
theorem dX6_readRoom_62 : decode cX6_readRoom 62 = .ok (.getfield 13, 3) := by decide +kernel
theorem dX6_readRoom_65 : decode cX6_readRoom 65 = .ok (.iload_n 1, 1) := by decide +kernel
theorem dX6_readRoom_66 : decode cX6_readRoom 66 = .ok (.iload_n 2, 1) := by decide +kernel
theorem dX6_readRoom_67 : decode cX6_readRoom 67 = .ok (.iload_n 3, 1) := by decide +kernel
theorem dX6_readRoom_68 : decode cX6_readRoom 68 = .ok (.iload 4, 2) := by decide +kernel
theorem dX6_readRoom_70 : decode cX6_readRoom 70 = .ok (.invokestatic 144, 3) := by decide +kernel
theorem dX6_readRoom_73 : decode cX6_readRoom 73 = .ok (.return_, 1) := by decide +kernel
theorem dX6_readOutside_0 : decode cX6_readOutside 0 = .ok (.aload_n 0, 1) := by decide +kernel
theorem dX6_readOutside_1 : decode cX6_readOutside 1 = .ok (.iconst 1, 1) := by decide +kernel
theorem dX6_readOutside_2 : decode cX6_readOutside 2 = .ok (.invokevirtual 134, 3) := by decide +kernel
theorem dX6_readOutside_5 : decode cX6_readOutside 5 = .ok (.aload_n 0, 1) := by decide +kernel
theorem dX6_readOutside_6 : decode cX6_readOutside 6 = .ok (.bipush 45, 2) := by decide +kernel
theorem dX6_readOutside_8 : decode cX6_readOutside 8 = .ok (.invokevirtual 148, 3) := by decide +kernel
theorem dX6_readOutside_11 : decode cX6_readOutside 11 = .ok (.istore_n 1, 1) := by decide +kernel
theorem dX6_readOutside_12 : decode cX6_readOutside 12 = .ok (.aload_n 0, 1) := by decide +kernel
theorem dX6_readOutside_13 : decode cX6_readOutside 13 = .ok (.iload_n 1, 1) := by decide +kernel
theorem dX6_readOutside_14 : decode cX6_readOutside 14 = .ok (.ifCond .ne 12, 3) := by decide +kernel
theorem dX6_readOutside_17 : decode cX6_readOutside 17 = .ok (.aload_n 0, 1) := by decide +kernel
theorem dX6_readOutside_18 : decode cX6_readOutside 18 = .ok (.bipush 43, 2) := by decide +kernel
theorem dX6_readOutside_20 : decode cX6_readOutside 20 = .ok (.invokevirtual 148, 3) := by decide +kernel
theorem dX6_readOutside_23 : decode cX6_readOutside 23 = .ok (.ifCond .eq 7, 3) := by decide +kernel
theorem dX6_readOutside_26 : decode cX6_readOutside 26 = .ok (.iconst 1, 1) := by decide +kernel
theorem dX6_readOutside_27 : decode cX6_readOutside 27 = .ok (.goto 4, 3) := by decide +kernel
theorem dX6_readOutside_30 : decode cX6_readOutside 30 = .ok (.iconst 0, 1) := by decide +kernel
theorem dX6_readOutside_31 : decode cX6_readOutside 31 = .ok (.invokevirtual 134, 3) := by decide +kernel
theorem dX6_readOutside_34 : decode cX6_readOutside 34 = .ok (.iload_n 1, 1) := by decide +kernel
theorem dX6_readOutside_35 : decode cX6_readOutside 35 = .ok (.ifCond .eq 13, 3) := by decide +kernel
theorem dX6_readOutside_38 : decode cX6_readOutside 38 = .ok (.aload_n 0, 1) := by decide +kernel
theorem dX6_readOutside_39 : decode cX6_readOutside 39 = .ok (.iconst 1, 1) := by decide +kernel
theorem dX6_readOutside_40 : decode cX6_readOutside 40 = .ok (.bipush 20, 2) := by decide +kernel
theorem dX6_readOutside_42 : decode cX6_readOutside 42 = .ok (.invokevirtual 141, 3) := by decide +kernel
theorem dX6_readOutside_45 : decode cX6_readOutside 45 = .ok (.goto 10, 3) := by decide +kernel
theorem dX6_readOutside_48 : decode cX6_readOutside 48 = .ok (.aload_n 0, 1) := by decide +kernel
theorem dX6_readOutside_49 : decode cX6_readOutside 49 = .ok (.iconst 0, 1) := by decide +kernel
theorem dX6_readOutside_50 : decode cX6_readOutside 50 = .ok (.bipush 40, 2) := by decide +kernel
theorem dX6_readOutside_52 : decode cX6_readOutside 52 = .ok (.invokevirtual 141, 3) := by decide +kernel
theorem dX6_readOutside_55 : decode cX6_readOutside 55 = .ok (.istore_n 2, 1) := by decide +kernel
theorem dX6_readOutside_56 : decode cX6_readOutside 56 = .ok (.aload_n 0, 1) := by decide +kernel
theorem dX6_readOutside_57 : decode cX6_readOutside 57 = .ok (.getfield 128, 3) := by decide +kernel
theorem dX6_readOutside_60 : decode cX6_readOutside 60 = .ok (.ifCond .eq 19, 3) := by decide +kernel
theorem dX6_readOutside_63 : decode cX6_readOutside 63 = .ok (.aload_n 0, 1) := by decide +kernel
theorem dX6_readOutside_64 : decode cX6_readOutside 64 = .ok (.getfield 13, 3) := by decide +kernel
theorem dX6_readOutside_67 : decode cX6_readOutside 67 = .ok (.iconst 2, 1) := by decide +kernel
theorem dX6_readOutside_68 : decode cX6_readOutside 68 = .ok (.iload_n 1, 1) := by decide +kernel
theorem dX6_readOutside_69 : decode cX6_readOutside 69 = .ok (.ifCond .eq 8, 3) := by decide +kernel
theorem dX6_readOutside_72 : decode cX6_readOutside 72 = .ok (.iload_n 2, 1) := by decide +kernel
theorem dX6_readOutside_73 : decode cX6_readOutside 73 = .ok (.ineg, 1) := by decide +kernel
theorem dX6_readOutside_74 : decode cX6_readOutside 74 = .ok (.goto 4, 3) := by decide +kernel
theorem dX6_readOutside_77 : decode cX6_readOutside 77 = .ok (.iload_n 2, 1) := by decide +kernel
theorem dX6_readOutside_78 : decode cX6_readOutside 78 = .ok (.iastore, 1) := by decide +kernel
theorem dX6_readOutside_79 : decode cX6_readOutside 79 = .ok (.return_, 1) := by decide +kernel
theorem dX6_readSetting_0 : decode cX6_readSetting 0 = .ok (.aload_n 0, 1) := by decide +kernel
theorem dX6_readSetting_1 : decode cX6_readSetting 1 = .ok (.iconst 1, 1) := by decide +kernel
theorem dX6_readSetting_2 : decode cX6_readSetting 2 = .ok (.invokevirtual 134, 3) := by decide +kernel
theorem dX6_readSetting_5 : decode cX6_readSetting 5 = .ok (.aload_n 0, 1) := by decide +kernel
theorem dX6_readSetting_6 : decode cX6_readSetting 6 = .ok (.iconst 2, 1) := by decide +kernel
theorem dX6_readSetting_7 : decode cX6_readSetting 7 = .ok (.bipush 8, 2) := by decide +kernel
theorem dX6_readSetting_9 : decode cX6_readSetting 9 = .ok (.invokevirtual 138, 3) := by decide +kernel
theorem dX6_readSetting_12 : decode cX6_readSetting 12 = .ok (.istore_n 1, 1) := by decide +kernel
theorem dX6_readSetting_13 : decode cX6_readSetting 13 = .ok (.aload_n 0, 1) := by decide +kernel
theorem dX6_readSetting_14 : decode cX6_readSetting 14 = .ok (.iload_n 1, 1) := by decide +kernel
theorem dX6_readSetting_15 : decode cX6_readSetting 15 = .ok (.invokestatic 151, 3) := by decide +kernel
theorem dX6_readSetting_18 : decode cX6_readSetting 18 = .ok (.iload_n 1, 1) := by decide +kernel
theorem dX6_readSetting_19 : decode cX6_readSetting 19 = .ok (.invokestatic 155, 3) := by decide +kernel
theorem dX6_readSetting_22 : decode cX6_readSetting 22 = .ok (.invokevirtual 141, 3) := by decide +kernel
theorem dX6_readSetting_25 : decode cX6_readSetting 25 = .ok (.istore_n 2, 1) := by decide +kernel
theorem dX6_readSetting_26 : decode cX6_readSetting 26 = .ok (.aload_n 0, 1) := by decide +kernel
theorem dX6_readSetting_27 : decode cX6_readSetting 27 = .ok (.getfield 128, 3) := by decide +kernel
theorem dX6_readSetting_30 : decode cX6_readSetting 30 = .ok (.ifCond .eq 13, 3) := by decide +kernel
theorem dX6_readSetting_33 : decode cX6_readSetting 33 = .ok (.aload_n 0, 1) := by decide +kernel
theorem dX6_readSetting_34 : decode cX6_readSetting 34 = .ok (.getfield 13, 3) := by decide +kernel
theorem dX6_readSetting_37 : decode cX6_readSetting 37 = .ok (.bipush 9, 2) := by decide +kernel
theorem dX6_readSetting_39 : decode cX6_readSetting 39 = .ok (.iload_n 1, 1) := by decide +kernel
theorem dX6_readSetting_40 : decode cX6_readSetting 40 = .ok (.iadd, 1) := by decide +kernel
theorem dX6_readSetting_41 : decode cX6_readSetting 41 = .ok (.iload_n 2, 1) := by decide +kernel
theorem dX6_readSetting_42 : decode cX6_readSetting 42 = .ok (.iastore, 1) := by decide +kernel
theorem dX6_readSetting_43 : decode cX6_readSetting 43 = .ok (.return_, 1) := by decide +kernel
theorem dX6_readText_0 : decode cX6_readText 0 = .ok (.aload_n 0, 1) := by decide +kernel
theorem dX6_readText_1 : decode cX6_readText 1 = .ok (.iconst 0, 1) := by decide +kernel
theorem dX6_readText_2 : decode cX6_readText 2 = .ok (.putfield 125, 3) := by decide +kernel
theorem dX6_readText_5 : decode cX6_readText 5 = .ok (.aload_n 0, 1) := by decide +kernel
theorem dX6_readText_6 : decode cX6_readText 6 = .ok (.iconst 1, 1) := by decide +kernel
theorem dX6_readText_7 : decode cX6_readText 7 = .ok (.putfield 128, 3) := by decide +kernel
theorem dX6_readText_10 : decode cX6_readText 10 = .ok (.aload_n 0, 1) := by decide +kernel
theorem dX6_readText_11 : decode cX6_readText 11 = .ok (.getfield 13, 3) := by decide +kernel
theorem dX6_readText_14 : decode cX6_readText 14 = .ok (.invokestatic 32, 3) := by decide +kernel
theorem dX6_readText_17 : decode cX6_readText 17 = .ok (.aload_n 0, 1) := by decide +kernel
theorem dX6_readText_18 : decode cX6_readText 18 = .ok (.aload_n 0, 1) := by decide +kernel
theorem dX6_readText_19 : decode cX6_readText 19 = .ok (.bipush 77, 2) := by decide +kernel
theorem dX6_readText_21 : decode cX6_readText 21 = .ok (.invokevirtual 148, 3) := by decide +kernel
theorem dX6_readText_24 : decode cX6_readText 24 = .ok (.invokevirtual 134, 3) := by decide +kernel
theorem dX6_readText_27 : decode cX6_readText 27 = .ok (.aload_n 0, 1) := by decide +kernel
theorem dX6_readText_28 : decode cX6_readText 28 = .ok (.iconst 0, 1) := by decide +kernel
theorem dX6_readText_29 : decode cX6_readText 29 = .ok (.iconst 2, 1) := by decide +kernel
theorem dX6_readText_30 : decode cX6_readText 30 = .ok (.invokevirtual 138, 3) := by decide +kernel
theorem dX6_readText_33 : decode cX6_readText 33 = .ok (.istore_n 1, 1) := by decide +kernel
theorem dX6_readText_34 : decode cX6_readText 34 = .ok (.bipush 100, 2) := by decide +kernel
theorem dX6_readText_36 : decode cX6_readText 36 = .ok (.iload_n 1, 1) := by decide +kernel
theorem dX6_readText_37 : decode cX6_readText 37 = .ok (.imul, 1) := by decide +kernel
theorem dX6_readText_38 : decode cX6_readText 38 = .ok (.iload_n 1, 1) := by decide +kernel
theorem dX6_readText_39 : decode cX6_readText 39 = .ok (.iconst 2, 1) := by decide +kernel
theorem dX6_readText_40 : decode cX6_readText 40 = .ok (.if_icmp .ne 12, 3) := by decide +kernel
theorem dX6_readText_43 : decode cX6_readText 43 = .ok (.aload_n 0, 1) := by decide +kernel
theorem dX6_readText_44 : decode cX6_readText 44 = .ok (.iconst 0, 1) := by decide +kernel
theorem dX6_readText_45 : decode cX6_readText 45 = .ok (.iconst 0, 1) := by decide +kernel
theorem dX6_readText_46 : decode cX6_readText 46 = .ok (.invokevirtual 141, 3) := by decide +kernel
theorem dX6_readText_49 : decode cX6_readText 49 = .ok (.goto 10, 3) := by decide +kernel
theorem dX6_readText_52 : decode cX6_readText 52 = .ok (.aload_n 0, 1) := by decide +kernel
theorem dX6_readText_53 : decode cX6_readText 53 = .ok (.iconst 0, 1) := by decide +kernel
theorem dX6_readText_54 : decode cX6_readText 54 = .ok (.bipush 99, 2) := by decide +kernel
theorem dX6_readText_56 : decode cX6_readText 56 = .ok (.invokevirtual 141, 3) := by decide +kernel
theorem dX6_readText_59 : decode cX6_readText 59 = .ok (.iadd, 1) := by decide +kernel
theorem dX6_readText_60 : decode cX6_readText 60 = .ok (.istore_n 2, 1) := by decide +kernel
theorem dX6_readText_61 : decode cX6_readText 61 = .ok (.aload_n 0, 1) := by decide +kernel
theorem dX6_readText_62 : decode cX6_readText 62 = .ok (.bipush 30, 2) := by decide +kernel
theorem dX6_readText_64 : decode cX6_readText 64 = .ok (.bipush 80, 2) := by decide +kernel
theorem dX6_readText_66 : decode cX6_readText 66 = .ok (.invokevirtual 141, 3) := by decide +kernel
theorem dX6_readText_69 : decode cX6_readText 69 = .ok (.istore_n 3, 1) := by decide +kernel
theorem dX6_readText_70 : decode cX6_readText 70 = .ok (.aload_n 0, 1) := by decide +kernel
theorem dX6_readText_71 : decode cX6_readText 71 = .ok (.getfield 13, 3) := by decide +kernel
theorem dX6_readText_74 : decode cX6_readText 74 = .ok (.bipush 9, 2) := by decide +kernel
theorem dX6_readText_76 : decode cX6_readText 76 = .ok (.iload_n 2, 1) := by decide +kernel
theorem dX6_readText_77 : decode cX6_readText 77 = .ok (.iastore, 1) := by decide +kernel
theorem dX6_readText_78 : decode cX6_readText 78 = .ok (.aload_n 0, 1) := by decide +kernel
theorem dX6_readText_79 : decode cX6_readText 79 = .ok (.getfield 13, 3) := by decide +kernel
theorem dX6_readText_82 : decode cX6_readText 82 = .ok (.bipush 10, 2) := by decide +kernel
theorem dX6_readText_84 : decode cX6_readText 84 = .ok (.iload_n 3, 1) := by decide +kernel
theorem dX6_readText_85 : decode cX6_readText 85 = .ok (.iastore, 1) := by decide +kernel
theorem dX6_readText_86 : decode cX6_readText 86 = .ok (.aload_n 0, 1) := by decide +kernel
theorem dX6_readText_87 : decode cX6_readText 87 = .ok (.getfield 128, 3) := by decide +kernel
theorem dX6_readText_90 : decode cX6_readText 90 = .ok (.ifCond .eq 70, 3) := by decide +kernel
theorem dX6_readText_93 : decode cX6_readText 93 = .ok (.aload_n 0, 1) := by decide +kernel
theorem dX6_readText_94 : decode cX6_readText 94 = .ok (.getfield 125, 3) := by decide +kernel
theorem dX6_readText_97 : decode cX6_readText 97 = .ok (.aload_n 0, 1) := by decide +kernel
theorem dX6_readText_98 : decode cX6_readText 98 = .ok (.getfield 118, 3) := by decide +kernel
theorem dX6_readText_101 : decode cX6_readText 101 = .ok (.if_icmp .ge 59, 3) := by decide +kernel
theorem dX6_readText_104 : decode cX6_readText 104 = .ok (.aload_n 0, 1) := by decide +kernel
theorem dX6_readText_105 : decode cX6_readText 105 = .ok (.bipush 114, 2) := by decide +kernel
theorem dX6_readText_107 : decode cX6_readText 107 = .ok (.invokevirtual 148, 3) := by decide +kernel
theorem dX6_readText_110 : decode cX6_readText 110 = .ok (.ifCond .eq 10, 3) := by decide +kernel
theorem dX6_readText_113 : decode cX6_readText 113 = .ok (.aload_n 0, 1) := by decide +kernel
theorem dX6_readText_114 : decode cX6_readText 114 = .ok (.invokevirtual 158, 3) := by decide +kernel
theorem dX6_readText_117 : decode cX6_readText 117 = .ok (.goto (-31), 3) := by decide +kernel
theorem dX6_readText_120 : decode cX6_readText 120 = .ok (.aload_n 0, 1) := by decide +kernel
theorem dX6_readText_121 : decode cX6_readText 121 = .ok (.bipush 111, 2) := by decide +kernel
theorem dX6_readText_123 : decode cX6_readText 123 = .ok (.invokevirtual 148, 3) := by decide +kernel
theorem dX6_readText_126 : decode cX6_readText 126 = .ok (.ifCond .eq 10, 3) := by decide +kernel
theorem dX6_readText_129 : decode cX6_readText 129 = .ok (.aload_n 0, 1) := by decide +kernel
theorem dX6_readText_130 : decode cX6_readText 130 = .ok (.invokevirtual 161, 3) := by decide +kernel
theorem dX6_readText_133 : decode cX6_readText 133 = .ok (.goto (-47), 3) := by decide +kernel
theorem dX6_readText_136 : decode cX6_readText 136 = .ok (.aload_n 0, 1) := by decide +kernel
theorem dX6_readText_137 : decode cX6_readText 137 = .ok (.bipush 115, 2) := by decide +kernel
theorem dX6_readText_139 : decode cX6_readText 139 = .ok (.invokevirtual 148, 3) := by decide +kernel
theorem dX6_readText_142 : decode cX6_readText 142 = .ok (.ifCond .eq 10, 3) := by decide +kernel
theorem dX6_readText_145 : decode cX6_readText 145 = .ok (.aload_n 0, 1) := by decide +kernel
theorem dX6_readText_146 : decode cX6_readText 146 = .ok (.invokevirtual 164, 3) := by decide +kernel
theorem dX6_readText_149 : decode cX6_readText 149 = .ok (.goto (-63), 3) := by decide +kernel
theorem dX6_readText_152 : decode cX6_readText 152 = .ok (.aload_n 0, 1) := by decide +kernel
theorem dX6_readText_153 : decode cX6_readText 153 = .ok (.iconst 0, 1) := by decide +kernel
theorem dX6_readText_154 : decode cX6_readText 154 = .ok (.invokevirtual 134, 3) := by decide +kernel
theorem dX6_readText_157 : decode cX6_readText 157 = .ok (.goto (-71), 3) := by decide +kernel
theorem dX6_readText_160 : decode cX6_readText 160 = .ok (.aload_n 0, 1) := by decide +kernel
theorem dX6_readText_161 : decode cX6_readText 161 = .ok (.getfield 128, 3) := by decide +kernel
theorem dX6_readText_164 : decode cX6_readText 164 = .ok (.ifCond .eq 8, 3) := by decide +kernel
theorem dX6_readText_167 : decode cX6_readText 167 = .ok (.ldc 64, 2) := by decide +kernel
theorem dX6_readText_169 : decode cX6_readText 169 = .ok (.goto 7, 3) := by decide +kernel
theorem dX6_readText_172 : decode cX6_readText 172 = .ok (.aload_n 0, 1) := by decide +kernel
theorem dX6_readText_173 : decode cX6_readText 173 = .ok (.getfield 125, 3) := by decide +kernel
theorem dX6_readText_176 : decode cX6_readText 176 = .ok (.ireturn, 1) := by decide +kernel
theorem dX6_errorPosition_0 : decode cX6_errorPosition 0 = .ok (.aload_n 0, 1) := by decide +kernel
theorem dX6_errorPosition_1 : decode cX6_errorPosition 1 = .ok (.iconst 0, 1) := by decide +kernel
theorem dX6_errorPosition_2 : decode cX6_errorPosition 2 = .ok (.putfield 36, 3) := by decide +kernel
theorem dX6_errorPosition_5 : decode cX6_errorPosition 5 = .ok (.aload_n 0, 1) := by decide +kernel
theorem dX6_errorPosition_6 : decode cX6_errorPosition 6 = .ok (.invokevirtual 167, 3) := by decide +kernel
theorem dX6_errorPosition_9 : decode cX6_errorPosition 9 = .ok (.ireturn, 1) := by decide +kernel
theorem dX6_load_0 : decode cX6_load 0 = .ok (.aload_n 0, 1) := by decide +kernel
theorem dX6_load_1 : decode cX6_load 1 = .ok (.aload_n 0, 1) := by decide +kernel
theorem dX6_load_2 : decode cX6_load 2 = .ok (.invokevirtual 167, 3) := by decide +kernel
theorem dX6_load_5 : decode cX6_load 5 = .ok (.ldc 64, 2) := by decide +kernel
theorem dX6_load_7 : decode cX6_load 7 = .ok (.if_icmp .ne 7, 3) := by decide +kernel
theorem dX6_load_10 : decode cX6_load 10 = .ok (.iconst 0, 1) := by decide +kernel
theorem dX6_load_11 : decode cX6_load 11 = .ok (.goto 4, 3) := by decide +kernel
theorem dX6_load_14 : decode cX6_load 14 = .ok (.iconst 1, 1) := by decide +kernel
theorem dX6_load_15 : decode cX6_load 15 = .ok (.invokevirtual 121, 3) := by decide +kernel
theorem dX6_load_18 : decode cX6_load 18 = .ok (.ifCond .eq 5, 3) := by decide +kernel
theorem dX6_load_21 : decode cX6_load 21 = .ok (.iconst 0, 1) := by decide +kernel
theorem dX6_load_22 : decode cX6_load 22 = .ok (.ireturn, 1) := by decide +kernel
theorem dX6_load_23 : decode cX6_load 23 = .ok (.aload_n 0, 1) := by decide +kernel
theorem dX6_load_24 : decode cX6_load 24 = .ok (.getfield 13, 3) := by decide +kernel
theorem dX6_load_27 : decode cX6_load 27 = .ok (.iconst 0, 1) := by decide +kernel
theorem dX6_load_28 : decode cX6_load 28 = .ok (.aload_n 0, 1) := by decide +kernel
theorem dX6_load_29 : decode cX6_load 29 = .ok (.getfield 16, 3) := by decide +kernel
theorem dX6_load_32 : decode cX6_load 32 = .ok (.iconst 0, 1) := by decide +kernel
theorem dX6_load_33 : decode cX6_load 33 = .ok (.sipush 128, 3) := by decide +kernel
theorem dX6_load_36 : decode cX6_load 36 = .ok (.invokestatic 45, 3) := by decide +kernel
theorem dX6_load_39 : decode cX6_load 39 = .ok (.aload_n 0, 1) := by decide +kernel
theorem dX6_load_40 : decode cX6_load 40 = .ok (.iconst 0, 1) := by decide +kernel
theorem dX6_load_41 : decode cX6_load 41 = .ok (.putfield 42, 3) := by decide +kernel
theorem dX6_load_44 : decode cX6_load 44 = .ok (.aload_n 0, 1) := by decide +kernel
theorem dX6_load_45 : decode cX6_load 45 = .ok (.getfield 28, 3) := by decide +kernel
theorem dX6_load_48 : decode cX6_load 48 = .ok (.iconst 0, 1) := by decide +kernel
theorem dX6_load_49 : decode cX6_load 49 = .ok (.iconst 0, 1) := by decide +kernel
theorem dX6_load_50 : decode cX6_load 50 = .ok (.bastore, 1) := by decide +kernel
theorem dX6_load_51 : decode cX6_load 51 = .ok (.aload_n 0, 1) := by decide +kernel
theorem dX6_load_52 : decode cX6_load 52 = .ok (.getfield 28, 3) := by decide +kernel
theorem dX6_load_55 : decode cX6_load 55 = .ok (.iconst 1, 1) := by decide +kernel
theorem dX6_load_56 : decode cX6_load 56 = .ok (.iconst 0, 1) := by decide +kernel
theorem dX6_load_57 : decode cX6_load 57 = .ok (.bastore, 1) := by decide +kernel
theorem dX6_load_58 : decode cX6_load 58 = .ok (.aload_n 0, 1) := by decide +kernel
theorem dX6_load_59 : decode cX6_load 59 = .ok (.getfield 16, 3) := by decide +kernel
theorem dX6_load_62 : decode cX6_load 62 = .ok (.iconst 0, 1) := by decide +kernel
theorem dX6_load_63 : decode cX6_load 63 = .ok (.iaload, 1) := by decide +kernel
theorem dX6_load_64 : decode cX6_load 64 = .ok (.ireturn, 1) := by decide +kernel
theorem dX6_allHeat_0 : decode cX6_allHeat 0 = .ok (.iconst 0, 1) := by decide +kernel
theorem dX6_allHeat_1 : decode cX6_allHeat 1 = .ok (.istore_n 1, 1) := by decide +kernel
theorem dX6_allHeat_2 : decode cX6_allHeat 2 = .ok (.iconst 0, 1) := by decide +kernel
theorem dX6_allHeat_3 : decode cX6_allHeat 3 = .ok (.istore_n 2, 1) := by decide +kernel
theorem dX6_allHeat_4 : decode cX6_allHeat 4 = .ok (.iload_n 2, 1) := by decide +kernel
theorem dX6_allHeat_5 : decode cX6_allHeat 5 = .ok (.aload_n 0, 1) := by decide +kernel
theorem dX6_allHeat_6 : decode cX6_allHeat 6 = .ok (.iconst 0, 1) := by decide +kernel
theorem dX6_allHeat_7 : decode cX6_allHeat 7 = .ok (.iaload, 1) := by decide +kernel
theorem dX6_allHeat_8 : decode cX6_allHeat 8 = .ok (.iconst 2, 1) := by decide +kernel
theorem dX6_allHeat_9 : decode cX6_allHeat 9 = .ok (.iadd, 1) := by decide +kernel
theorem dX6_allHeat_10 : decode cX6_allHeat 10 = .ok (.if_icmp .ge 18, 3) := by decide +kernel
theorem dX6_allHeat_13 : decode cX6_allHeat 13 = .ok (.iload_n 1, 1) := by decide +kernel
theorem dX6_allHeat_14 : decode cX6_allHeat 14 = .ok (.aload_n 0, 1) := by decide +kernel
theorem dX6_allHeat_15 : decode cX6_allHeat 15 = .ok (.bipush 18, 2) := by decide +kernel
theorem dX6_allHeat_17 : decode cX6_allHeat 17 = .ok (.iload_n 2, 1) := by decide +kernel
theorem dX6_allHeat_18 : decode cX6_allHeat 18 = .ok (.iadd, 1) := by decide +kernel
theorem dX6_allHeat_19 : decode cX6_allHeat 19 = .ok (.iaload, 1) := by decide +kernel
theorem dX6_allHeat_20 : decode cX6_allHeat 20 = .ok (.iadd, 1) := by decide +kernel
theorem dX6_allHeat_21 : decode cX6_allHeat 21 = .ok (.istore_n 1, 1) := by decide +kernel
theorem dX6_allHeat_22 : decode cX6_allHeat 22 = .ok (.iinc 2 1, 3) := by decide +kernel
theorem dX6_allHeat_25 : decode cX6_allHeat 25 = .ok (.goto (-21), 3) := by decide +kernel
theorem dX6_allHeat_28 : decode cX6_allHeat 28 = .ok (.iload_n 1, 1) := by decide +kernel
theorem dX6_allHeat_29 : decode cX6_allHeat 29 = .ok (.ireturn, 1) := by decide +kernel
theorem dX6_allOf_0 : decode cX6_allOf 0 = .ok (.iconst 0, 1) := by decide +kernel
theorem dX6_allOf_1 : decode cX6_allOf 1 = .ok (.istore_n 2, 1) := by decide +kernel
theorem dX6_allOf_2 : decode cX6_allOf 2 = .ok (.iconst 0, 1) := by decide +kernel
theorem dX6_allOf_3 : decode cX6_allOf 3 = .ok (.istore_n 3, 1) := by decide +kernel
theorem dX6_allOf_4 : decode cX6_allOf 4 = .ok (.iload_n 3, 1) := by decide +kernel
theorem dX6_allOf_5 : decode cX6_allOf 5 = .ok (.aload_n 0, 1) := by decide +kernel
theorem dX6_allOf_6 : decode cX6_allOf 6 = .ok (.iconst 0, 1) := by decide +kernel
theorem dX6_allOf_7 : decode cX6_allOf 7 = .ok (.iaload, 1) := by decide +kernel
theorem dX6_allOf_8 : decode cX6_allOf 8 = .ok (.if_icmp .ge 19, 3) := by decide +kernel
theorem dX6_allOf_11 : decode cX6_allOf 11 = .ok (.iload_n 2, 1) := by decide +kernel
theorem dX6_allOf_12 : decode cX6_allOf 12 = .ok (.aload_n 0, 1) := by decide +kernel
theorem dX6_allOf_13 : decode cX6_allOf 13 = .ok (.iload_n 3, 1) := by decide +kernel
theorem dX6_allOf_14 : decode cX6_allOf 14 = .ok (.iload_n 1, 1) := by decide +kernel
theorem dX6_allOf_15 : decode cX6_allOf 15 = .ok (.invokestatic 53, 3) := by decide +kernel
theorem dX6_allOf_18 : decode cX6_allOf 18 = .ok (.iaload, 1) := by decide +kernel
theorem dX6_allOf_19 : decode cX6_allOf 19 = .ok (.iadd, 1) := by decide +kernel
theorem dX6_allOf_20 : decode cX6_allOf 20 = .ok (.istore_n 2, 1) := by decide +kernel
theorem dX6_allOf_21 : decode cX6_allOf 21 = .ok (.iinc 3 1, 3) := by decide +kernel
theorem dX6_allOf_24 : decode cX6_allOf 24 = .ok (.goto (-20), 3) := by decide +kernel
theorem dX6_allOf_27 : decode cX6_allOf 27 = .ok (.iload_n 2, 1) := by decide +kernel
theorem dX6_allOf_28 : decode cX6_allOf 28 = .ok (.ireturn, 1) := by decide +kernel
theorem dX6_about_0 : decode cX6_about 0 = .ok (.aload_n 0, 1) := by decide +kernel
theorem dX6_about_1 : decode cX6_about 1 = .ok (.iload_n 1, 1) := by decide +kernel
theorem dX6_about_2 : decode cX6_about 2 = .ok (.i2l, 1) := by decide +kernel
theorem dX6_about_3 : decode cX6_about 3 = .ok (.lconst 0, 1) := by decide +kernel
theorem dX6_about_4 : decode cX6_about 4 = .ok (.ldc2_w 171, 3) := by decide +kernel
theorem dX6_about_7 : decode cX6_about 7 = .ok (.invokestatic 49, 3) := by decide +kernel
theorem dX6_about_10 : decode cX6_about 10 = .ok (.ifCond .eq 7, 3) := by decide +kernel
theorem dX6_about_13 : decode cX6_about 13 = .ok (.iconst 0, 1) := by decide +kernel
theorem dX6_about_14 : decode cX6_about 14 = .ok (.goto 4, 3) := by decide +kernel
theorem dX6_about_17 : decode cX6_about 17 = .ok (.iconst 1, 1) := by decide +kernel
theorem dX6_about_18 : decode cX6_about 18 = .ok (.invokevirtual 121, 3) := by decide +kernel
theorem dX6_about_21 : decode cX6_about 21 = .ok (.ifCond .eq 5, 3) := by decide +kernel
theorem dX6_about_24 : decode cX6_about 24 = .ok (.iconst 0, 1) := by decide +kernel
theorem dX6_about_25 : decode cX6_about 25 = .ok (.ireturn, 1) := by decide +kernel
theorem dX6_about_26 : decode cX6_about 26 = .ok (.iload_n 1, 1) := by decide +kernel
theorem dX6_about_27 : decode cX6_about 27 = .ok (.tableswitch 158 0 11 #[61, 68, 75, 82, 89, 103, 110, 118, 126, 134, 142, 150], 61) := by decide +kernel
theorem dX6_about_88 : decode cX6_about 88 = .ok (.aload_n 0, 1) := by decide +kernel
theorem dX6_about_89 : decode cX6_about 89 = .ok (.getfield 16, 3) := by decide +kernel
theorem dX6_about_92 : decode cX6_about 92 = .ok (.iconst 0, 1) := by decide +kernel
theorem dX6_about_93 : decode cX6_about 93 = .ok (.iaload, 1) := by decide +kernel
theorem dX6_about_94 : decode cX6_about 94 = .ok (.ireturn, 1) := by decide +kernel
theorem dX6_about_95 : decode cX6_about 95 = .ok (.aload_n 0, 1) := by decide +kernel
theorem dX6_about_96 : decode cX6_about 96 = .ok (.getfield 16, 3) := by decide +kernel
theorem dX6_about_99 : decode cX6_about 99 = .ok (.iconst 1, 1) := by decide +kernel
theorem dX6_about_100 : decode cX6_about 100 = .ok (.iaload, 1) := by decide +kernel
theorem dX6_about_101 : decode cX6_about 101 = .ok (.ireturn, 1) := by decide +kernel
theorem dX6_about_102 : decode cX6_about 102 = .ok (.aload_n 0, 1) := by decide +kernel
theorem dX6_about_103 : decode cX6_about 103 = .ok (.getfield 16, 3) := by decide +kernel
theorem dX6_about_106 : decode cX6_about 106 = .ok (.iconst 2, 1) := by decide +kernel
theorem dX6_about_107 : decode cX6_about 107 = .ok (.iaload, 1) := by decide +kernel
theorem dX6_about_108 : decode cX6_about 108 = .ok (.ireturn, 1) := by decide +kernel
theorem dX6_about_109 : decode cX6_about 109 = .ok (.aload_n 0, 1) := by decide +kernel
theorem dX6_about_110 : decode cX6_about 110 = .ok (.getfield 16, 3) := by decide +kernel
theorem dX6_about_113 : decode cX6_about 113 = .ok (.iconst 3, 1) := by decide +kernel
theorem dX6_about_114 : decode cX6_about 114 = .ok (.iaload, 1) := by decide +kernel
theorem dX6_about_115 : decode cX6_about 115 = .ok (.ireturn, 1) := by decide +kernel
theorem dX6_about_116 : decode cX6_about 116 = .ok (.aload_n 0, 1) := by decide +kernel
theorem dX6_about_117 : decode cX6_about 117 = .ok (.getfield 16, 3) := by decide +kernel
theorem dX6_about_120 : decode cX6_about 120 = .ok (.iconst 1, 1) := by decide +kernel
theorem dX6_about_121 : decode cX6_about 121 = .ok (.iaload, 1) := by decide +kernel
theorem dX6_about_122 : decode cX6_about 122 = .ok (.aload_n 0, 1) := by decide +kernel
theorem dX6_about_123 : decode cX6_about 123 = .ok (.getfield 16, 3) := by decide +kernel
theorem dX6_about_126 : decode cX6_about 126 = .ok (.iconst 4, 1) := by decide +kernel
theorem dX6_about_127 : decode cX6_about 127 = .ok (.iaload, 1) := by decide +kernel
theorem dX6_about_128 : decode cX6_about 128 = .ok (.isub, 1) := by decide +kernel
theorem dX6_about_129 : decode cX6_about 129 = .ok (.ireturn, 1) := by decide +kernel
theorem dX6_about_130 : decode cX6_about 130 = .ok (.aload_n 0, 1) := by decide +kernel
theorem dX6_about_131 : decode cX6_about 131 = .ok (.getfield 16, 3) := by decide +kernel
theorem dX6_about_134 : decode cX6_about 134 = .ok (.iconst 5, 1) := by decide +kernel
theorem dX6_about_135 : decode cX6_about 135 = .ok (.iaload, 1) := by decide +kernel
theorem dX6_about_136 : decode cX6_about 136 = .ok (.ireturn, 1) := by decide +kernel
theorem dX6_about_137 : decode cX6_about 137 = .ok (.aload_n 0, 1) := by decide +kernel
theorem dX6_about_138 : decode cX6_about 138 = .ok (.getfield 16, 3) := by decide +kernel
theorem dX6_about_141 : decode cX6_about 141 = .ok (.bipush 6, 2) := by decide +kernel
theorem dX6_about_143 : decode cX6_about 143 = .ok (.iaload, 1) := by decide +kernel
theorem dX6_about_144 : decode cX6_about 144 = .ok (.ireturn, 1) := by decide +kernel
theorem dX6_about_145 : decode cX6_about 145 = .ok (.aload_n 0, 1) := by decide +kernel
theorem dX6_about_146 : decode cX6_about 146 = .ok (.getfield 16, 3) := by decide +kernel
theorem dX6_about_149 : decode cX6_about 149 = .ok (.bipush 7, 2) := by decide +kernel
theorem dX6_about_151 : decode cX6_about 151 = .ok (.iaload, 1) := by decide +kernel
theorem dX6_about_152 : decode cX6_about 152 = .ok (.ireturn, 1) := by decide +kernel
theorem dX6_about_153 : decode cX6_about 153 = .ok (.aload_n 0, 1) := by decide +kernel
theorem dX6_about_154 : decode cX6_about 154 = .ok (.getfield 16, 3) := by decide +kernel
theorem dX6_about_157 : decode cX6_about 157 = .ok (.invokestatic 80, 3) := by decide +kernel
theorem dX6_about_160 : decode cX6_about 160 = .ok (.ireturn, 1) := by decide +kernel
theorem dX6_about_161 : decode cX6_about 161 = .ok (.aload_n 0, 1) := by decide +kernel
theorem dX6_about_162 : decode cX6_about 162 = .ok (.getfield 16, 3) := by decide +kernel
theorem dX6_about_165 : decode cX6_about 165 = .ok (.bipush 8, 2) := by decide +kernel
theorem dX6_about_167 : decode cX6_about 167 = .ok (.iaload, 1) := by decide +kernel
theorem dX6_about_168 : decode cX6_about 168 = .ok (.ireturn, 1) := by decide +kernel
theorem dX6_about_169 : decode cX6_about 169 = .ok (.aload_n 0, 1) := by decide +kernel
theorem dX6_about_170 : decode cX6_about 170 = .ok (.getfield 16, 3) := by decide +kernel
theorem dX6_about_173 : decode cX6_about 173 = .ok (.invokestatic 173, 3) := by decide +kernel
theorem dX6_about_176 : decode cX6_about 176 = .ok (.ireturn, 1) := by decide +kernel
theorem dX6_about_177 : decode cX6_about 177 = .ok (.aload_n 0, 1) := by decide +kernel
theorem dX6_about_178 : decode cX6_about 178 = .ok (.getfield 16, 3) := by decide +kernel
theorem dX6_about_181 : decode cX6_about 181 = .ok (.bipush 74, 2) := by decide +kernel
theorem dX6_about_183 : decode cX6_about 183 = .ok (.iaload, 1) := by decide +kernel
theorem dX6_about_184 : decode cX6_about 184 = .ok (.ireturn, 1) := by decide +kernel
theorem dX6_about_185 : decode cX6_about 185 = .ok (.aload_n 0, 1) := by decide +kernel
theorem dX6_about_186 : decode cX6_about 186 = .ok (.getfield 16, 3) := by decide +kernel
theorem dX6_about_189 : decode cX6_about 189 = .ok (.iconst 5, 1) := by decide +kernel
theorem dX6_about_190 : decode cX6_about 190 = .ok (.invokestatic 176, 3) := by decide +kernel
theorem dX6_about_193 : decode cX6_about 193 = .ok (.ireturn, 1) := by decide +kernel
end
section
theorem dX6_setting_0 : decode cX6_setting 0 = .ok (.aload_n 0, 1) := by decide +kernel
theorem dX6_setting_1 : decode cX6_setting 1 = .ok (.iload_n 1, 1) := by decide +kernel
theorem dX6_setting_2 : decode cX6_setting 2 = .ok (.i2l, 1) := by decide +kernel
theorem dX6_setting_3 : decode cX6_setting 3 = .ok (.lconst 0, 1) := by decide +kernel
theorem dX6_setting_4 : decode cX6_setting 4 = .ok (.ldc2_w 179, 3) := by decide +kernel
theorem dX6_setting_7 : decode cX6_setting 7 = .ok (.invokestatic 49, 3) := by decide +kernel
theorem dX6_setting_10 : decode cX6_setting 10 = .ok (.ifCond .eq 7, 3) := by decide +kernel
theorem dX6_setting_13 : decode cX6_setting 13 = .ok (.iconst 0, 1) := by decide +kernel
theorem dX6_setting_14 : decode cX6_setting 14 = .ok (.goto 4, 3) := by decide +kernel
theorem dX6_setting_17 : decode cX6_setting 17 = .ok (.iconst 1, 1) := by decide +kernel
theorem dX6_setting_18 : decode cX6_setting 18 = .ok (.invokevirtual 121, 3) := by decide +kernel
theorem dX6_setting_21 : decode cX6_setting 21 = .ok (.ifCond .eq 7, 3) := by decide +kernel
theorem dX6_setting_24 : decode cX6_setting 24 = .ok (.iconst 0, 1) := by decide +kernel
theorem dX6_setting_25 : decode cX6_setting 25 = .ok (.goto 12, 3) := by decide +kernel
theorem dX6_setting_28 : decode cX6_setting 28 = .ok (.aload_n 0, 1) := by decide +kernel
theorem dX6_setting_29 : decode cX6_setting 29 = .ok (.getfield 16, 3) := by decide +kernel
theorem dX6_setting_32 : decode cX6_setting 32 = .ok (.bipush 9, 2) := by decide +kernel
theorem dX6_setting_34 : decode cX6_setting 34 = .ok (.iload_n 1, 1) := by decide +kernel
theorem dX6_setting_35 : decode cX6_setting 35 = .ok (.iadd, 1) := by decide +kernel
theorem dX6_setting_36 : decode cX6_setting 36 = .ok (.iaload, 1) := by decide +kernel
theorem dX6_setting_37 : decode cX6_setting 37 = .ok (.ireturn, 1) := by decide +kernel
theorem dX6_place_0 : decode cX6_place 0 = .ok (.aload_n 0, 1) := by decide +kernel
theorem dX6_place_1 : decode cX6_place 1 = .ok (.aload_n 0, 1) := by decide +kernel
theorem dX6_place_2 : decode cX6_place 2 = .ok (.iload_n 1, 1) := by decide +kernel
theorem dX6_place_3 : decode cX6_place 3 = .ok (.invokevirtual 181, 3) := by decide +kernel
theorem dX6_place_6 : decode cX6_place 6 = .ok (.ifCond .ne 7, 3) := by decide +kernel
theorem dX6_place_9 : decode cX6_place 9 = .ok (.iconst 1, 1) := by decide +kernel
theorem dX6_place_10 : decode cX6_place 10 = .ok (.goto 20, 3) := by decide +kernel
theorem dX6_place_13 : decode cX6_place 13 = .ok (.iload_n 2, 1) := by decide +kernel
theorem dX6_place_14 : decode cX6_place 14 = .ok (.i2l, 1) := by decide +kernel
theorem dX6_place_15 : decode cX6_place 15 = .ok (.lconst 0, 1) := by decide +kernel
theorem dX6_place_16 : decode cX6_place 16 = .ok (.ldc2_w 184, 3) := by decide +kernel
theorem dX6_place_19 : decode cX6_place 19 = .ok (.invokestatic 49, 3) := by decide +kernel
theorem dX6_place_22 : decode cX6_place 22 = .ok (.ifCond .eq 7, 3) := by decide +kernel
theorem dX6_place_25 : decode cX6_place 25 = .ok (.iconst 0, 1) := by decide +kernel
theorem dX6_place_26 : decode cX6_place 26 = .ok (.goto 4, 3) := by decide +kernel
theorem dX6_place_29 : decode cX6_place 29 = .ok (.iconst 2, 1) := by decide +kernel
theorem dX6_place_30 : decode cX6_place 30 = .ok (.invokevirtual 121, 3) := by decide +kernel
theorem dX6_place_33 : decode cX6_place 33 = .ok (.ifCond .eq 5, 3) := by decide +kernel
theorem dX6_place_36 : decode cX6_place 36 = .ok (.iconst 0, 1) := by decide +kernel
theorem dX6_place_37 : decode cX6_place 37 = .ok (.ireturn, 1) := by decide +kernel
theorem dX6_place_38 : decode cX6_place 38 = .ok (.iload_n 2, 1) := by decide +kernel
theorem dX6_place_39 : decode cX6_place 39 = .ok (.ifCond .ne 15, 3) := by decide +kernel
theorem dX6_place_42 : decode cX6_place 42 = .ok (.aload_n 0, 1) := by decide +kernel
theorem dX6_place_43 : decode cX6_place 43 = .ok (.getfield 16, 3) := by decide +kernel
theorem dX6_place_46 : decode cX6_place 46 = .ok (.bipush 18, 2) := by decide +kernel
theorem dX6_place_48 : decode cX6_place 48 = .ok (.iload_n 1, 1) := by decide +kernel
theorem dX6_place_49 : decode cX6_place 49 = .ok (.iadd, 1) := by decide +kernel
theorem dX6_place_50 : decode cX6_place 50 = .ok (.iaload, 1) := by decide +kernel
theorem dX6_place_51 : decode cX6_place 51 = .ok (.goto 27, 3) := by decide +kernel
theorem dX6_place_54 : decode cX6_place 54 = .ok (.iload_n 2, 1) := by decide +kernel
theorem dX6_place_55 : decode cX6_place 55 = .ok (.iconst 1, 1) := by decide +kernel
theorem dX6_place_56 : decode cX6_place 56 = .ok (.if_icmp .ne 14, 3) := by decide +kernel
theorem dX6_place_59 : decode cX6_place 59 = .ok (.aload_n 0, 1) := by decide +kernel
theorem dX6_place_60 : decode cX6_place 60 = .ok (.getfield 16, 3) := by decide +kernel
theorem dX6_place_63 : decode cX6_place 63 = .ok (.iload_n 1, 1) := by decide +kernel
theorem dX6_place_64 : decode cX6_place 64 = .ok (.invokestatic 73, 3) := by decide +kernel
theorem dX6_place_67 : decode cX6_place 67 = .ok (.goto 11, 3) := by decide +kernel
theorem dX6_place_70 : decode cX6_place 70 = .ok (.aload_n 0, 1) := by decide +kernel
theorem dX6_place_71 : decode cX6_place 71 = .ok (.getfield 16, 3) := by decide +kernel
theorem dX6_place_74 : decode cX6_place 74 = .ok (.iload_n 1, 1) := by decide +kernel
theorem dX6_place_75 : decode cX6_place 75 = .ok (.invokestatic 57, 3) := by decide +kernel
theorem dX6_place_78 : decode cX6_place 78 = .ok (.ireturn, 1) := by decide +kernel
theorem dX6_room_0 : decode cX6_room 0 = .ok (.aload_n 0, 1) := by decide +kernel
theorem dX6_room_1 : decode cX6_room 1 = .ok (.aload_n 0, 1) := by decide +kernel
theorem dX6_room_2 : decode cX6_room 2 = .ok (.iload_n 1, 1) := by decide +kernel
theorem dX6_room_3 : decode cX6_room 3 = .ok (.invokevirtual 186, 3) := by decide +kernel
theorem dX6_room_6 : decode cX6_room 6 = .ok (.ifCond .ne 7, 3) := by decide +kernel
theorem dX6_room_9 : decode cX6_room 9 = .ok (.iconst 1, 1) := by decide +kernel
theorem dX6_room_10 : decode cX6_room 10 = .ok (.goto 20, 3) := by decide +kernel
theorem dX6_room_13 : decode cX6_room 13 = .ok (.iload_n 2, 1) := by decide +kernel
theorem dX6_room_14 : decode cX6_room 14 = .ok (.i2l, 1) := by decide +kernel
theorem dX6_room_15 : decode cX6_room 15 = .ok (.lconst 0, 1) := by decide +kernel
theorem dX6_room_16 : decode cX6_room 16 = .ok (.ldc2_w 189, 3) := by decide +kernel
theorem dX6_room_19 : decode cX6_room 19 = .ok (.invokestatic 49, 3) := by decide +kernel
theorem dX6_room_22 : decode cX6_room 22 = .ok (.ifCond .eq 7, 3) := by decide +kernel
theorem dX6_room_25 : decode cX6_room 25 = .ok (.iconst 0, 1) := by decide +kernel
theorem dX6_room_26 : decode cX6_room 26 = .ok (.goto 4, 3) := by decide +kernel
theorem dX6_room_29 : decode cX6_room 29 = .ok (.iconst 2, 1) := by decide +kernel
theorem dX6_room_30 : decode cX6_room 30 = .ok (.invokevirtual 121, 3) := by decide +kernel
theorem dX6_room_33 : decode cX6_room 33 = .ok (.ifCond .eq 5, 3) := by decide +kernel
theorem dX6_room_36 : decode cX6_room 36 = .ok (.iconst 0, 1) := by decide +kernel
theorem dX6_room_37 : decode cX6_room 37 = .ok (.ireturn, 1) := by decide +kernel
theorem dX6_room_38 : decode cX6_room 38 = .ok (.aload_n 0, 1) := by decide +kernel
theorem dX6_room_39 : decode cX6_room 39 = .ok (.getfield 16, 3) := by decide +kernel
theorem dX6_room_42 : decode cX6_room 42 = .ok (.iload_n 1, 1) := by decide +kernel
theorem dX6_room_43 : decode cX6_room 43 = .ok (.iload_n 2, 1) := by decide +kernel
theorem dX6_room_44 : decode cX6_room 44 = .ok (.iconst 1, 1) := by decide +kernel
theorem dX6_room_45 : decode cX6_room 45 = .ok (.iadd, 1) := by decide +kernel
theorem dX6_room_46 : decode cX6_room 46 = .ok (.invokestatic 53, 3) := by decide +kernel
theorem dX6_room_49 : decode cX6_room 49 = .ok (.iaload, 1) := by decide +kernel
theorem dX6_room_50 : decode cX6_room 50 = .ok (.ireturn, 1) := by decide +kernel
theorem dX6_moved_0 : decode cX6_moved 0 = .ok (.aload_n 0, 1) := by decide +kernel
theorem dX6_moved_1 : decode cX6_moved 1 = .ok (.iload_n 1, 1) := by decide +kernel
theorem dX6_moved_2 : decode cX6_moved 2 = .ok (.i2l, 1) := by decide +kernel
theorem dX6_moved_3 : decode cX6_moved 3 = .ok (.lconst 0, 1) := by decide +kernel
theorem dX6_moved_4 : decode cX6_moved 4 = .ok (.ldc2_w 132, 3) := by decide +kernel
theorem dX6_moved_7 : decode cX6_moved 7 = .ok (.invokestatic 49, 3) := by decide +kernel
theorem dX6_moved_10 : decode cX6_moved 10 = .ok (.ifCond .eq 19, 3) := by decide +kernel
theorem dX6_moved_13 : decode cX6_moved 13 = .ok (.iload_n 2, 1) := by decide +kernel
theorem dX6_moved_14 : decode cX6_moved 14 = .ok (.i2l, 1) := by decide +kernel
theorem dX6_moved_15 : decode cX6_moved 15 = .ok (.lconst 0, 1) := by decide +kernel
theorem dX6_moved_16 : decode cX6_moved 16 = .ok (.ldc2_w 132, 3) := by decide +kernel
theorem dX6_moved_19 : decode cX6_moved 19 = .ok (.invokestatic 49, 3) := by decide +kernel
theorem dX6_moved_22 : decode cX6_moved 22 = .ok (.ifCond .eq 7, 3) := by decide +kernel
theorem dX6_moved_25 : decode cX6_moved 25 = .ok (.iconst 0, 1) := by decide +kernel
theorem dX6_moved_26 : decode cX6_moved 26 = .ok (.goto 4, 3) := by decide +kernel
theorem dX6_moved_29 : decode cX6_moved 29 = .ok (.iconst 1, 1) := by decide +kernel
theorem dX6_moved_30 : decode cX6_moved 30 = .ok (.invokevirtual 121, 3) := by decide +kernel
theorem dX6_moved_33 : decode cX6_moved 33 = .ok (.ifCond .eq 7, 3) := by decide +kernel
theorem dX6_moved_36 : decode cX6_moved 36 = .ok (.iconst 0, 1) := by decide +kernel
theorem dX6_moved_37 : decode cX6_moved 37 = .ok (.goto 12, 3) := by decide +kernel
theorem dX6_moved_40 : decode cX6_moved 40 = .ok (.aload_n 0, 1) := by decide +kernel
theorem dX6_moved_41 : decode cX6_moved 41 = .ok (.getfield 16, 3) := by decide +kernel
theorem dX6_moved_44 : decode cX6_moved 44 = .ok (.iload_n 1, 1) := by decide +kernel
theorem dX6_moved_45 : decode cX6_moved 45 = .ok (.iload_n 2, 1) := by decide +kernel
theorem dX6_moved_46 : decode cX6_moved 46 = .ok (.invokestatic 191, 3) := by decide +kernel
theorem dX6_moved_49 : decode cX6_moved 49 = .ok (.ireturn, 1) := by decide +kernel
theorem dX6_way_0 : decode cX6_way 0 = .ok (.aload_n 0, 1) := by decide +kernel
theorem dX6_way_1 : decode cX6_way 1 = .ok (.iload_n 1, 1) := by decide +kernel
theorem dX6_way_2 : decode cX6_way 2 = .ok (.i2l, 1) := by decide +kernel
theorem dX6_way_3 : decode cX6_way 3 = .ok (.lconst 0, 1) := by decide +kernel
theorem dX6_way_4 : decode cX6_way 4 = .ok (.aload_n 0, 1) := by decide +kernel
theorem dX6_way_5 : decode cX6_way 5 = .ok (.getfield 16, 3) := by decide +kernel
theorem dX6_way_8 : decode cX6_way 8 = .ok (.bipush 74, 2) := by decide +kernel
theorem dX6_way_10 : decode cX6_way 10 = .ok (.iaload, 1) := by decide +kernel
theorem dX6_way_11 : decode cX6_way 11 = .ok (.iconst 1, 1) := by decide +kernel
theorem dX6_way_12 : decode cX6_way 12 = .ok (.isub, 1) := by decide +kernel
theorem dX6_way_13 : decode cX6_way 13 = .ok (.i2l, 1) := by decide +kernel
theorem dX6_way_14 : decode cX6_way 14 = .ok (.invokestatic 49, 3) := by decide +kernel
theorem dX6_way_17 : decode cX6_way 17 = .ok (.ifCond .ne 7, 3) := by decide +kernel
theorem dX6_way_20 : decode cX6_way 20 = .ok (.iconst 1, 1) := by decide +kernel
theorem dX6_way_21 : decode cX6_way 21 = .ok (.goto 20, 3) := by decide +kernel
theorem dX6_way_24 : decode cX6_way 24 = .ok (.iload_n 2, 1) := by decide +kernel
theorem dX6_way_25 : decode cX6_way 25 = .ok (.i2l, 1) := by decide +kernel
theorem dX6_way_26 : decode cX6_way 26 = .ok (.lconst 0, 1) := by decide +kernel
theorem dX6_way_27 : decode cX6_way 27 = .ok (.ldc2_w 184, 3) := by decide +kernel
theorem dX6_way_30 : decode cX6_way 30 = .ok (.invokestatic 49, 3) := by decide +kernel
theorem dX6_way_33 : decode cX6_way 33 = .ok (.ifCond .eq 7, 3) := by decide +kernel
theorem dX6_way_36 : decode cX6_way 36 = .ok (.iconst 0, 1) := by decide +kernel
theorem dX6_way_37 : decode cX6_way 37 = .ok (.goto 4, 3) := by decide +kernel
theorem dX6_way_40 : decode cX6_way 40 = .ok (.iconst 2, 1) := by decide +kernel
theorem dX6_way_41 : decode cX6_way 41 = .ok (.invokevirtual 121, 3) := by decide +kernel
theorem dX6_way_44 : decode cX6_way 44 = .ok (.ifCond .eq 5, 3) := by decide +kernel
theorem dX6_way_47 : decode cX6_way 47 = .ok (.iconst 0, 1) := by decide +kernel
theorem dX6_way_48 : decode cX6_way 48 = .ok (.ireturn, 1) := by decide +kernel
theorem dX6_way_49 : decode cX6_way 49 = .ok (.aload_n 0, 1) := by decide +kernel
theorem dX6_way_50 : decode cX6_way 50 = .ok (.getfield 16, 3) := by decide +kernel
theorem dX6_way_53 : decode cX6_way 53 = .ok (.bipush 75, 2) := by decide +kernel
theorem dX6_way_55 : decode cX6_way 55 = .ok (.iconst 2, 1) := by decide +kernel
theorem dX6_way_56 : decode cX6_way 56 = .ok (.iload_n 1, 1) := by decide +kernel
theorem dX6_way_57 : decode cX6_way 57 = .ok (.imul, 1) := by decide +kernel
theorem dX6_way_58 : decode cX6_way 58 = .ok (.iadd, 1) := by decide +kernel
theorem dX6_way_59 : decode cX6_way 59 = .ok (.iaload, 1) := by decide +kernel
theorem dX6_way_60 : decode cX6_way 60 = .ok (.istore_n 3, 1) := by decide +kernel
theorem dX6_way_61 : decode cX6_way 61 = .ok (.iload_n 2, 1) := by decide +kernel
theorem dX6_way_62 : decode cX6_way 62 = .ok (.ifCond .ne 10, 3) := by decide +kernel
theorem dX6_way_65 : decode cX6_way 65 = .ok (.iload_n 3, 1) := by decide +kernel
theorem dX6_way_66 : decode cX6_way 66 = .ok (.bipush 10, 2) := by decide +kernel
theorem dX6_way_68 : decode cX6_way 68 = .ok (.idiv, 1) := by decide +kernel
theorem dX6_way_69 : decode cX6_way 69 = .ok (.goto 26, 3) := by decide +kernel
theorem dX6_way_72 : decode cX6_way 72 = .ok (.iload_n 2, 1) := by decide +kernel
theorem dX6_way_73 : decode cX6_way 73 = .ok (.iconst 1, 1) := by decide +kernel
theorem dX6_way_74 : decode cX6_way 74 = .ok (.if_icmp .ne 10, 3) := by decide +kernel
theorem dX6_way_77 : decode cX6_way 77 = .ok (.iload_n 3, 1) := by decide +kernel
theorem dX6_way_78 : decode cX6_way 78 = .ok (.bipush 10, 2) := by decide +kernel
theorem dX6_way_80 : decode cX6_way 80 = .ok (.irem, 1) := by decide +kernel
theorem dX6_way_81 : decode cX6_way 81 = .ok (.goto 14, 3) := by decide +kernel
theorem dX6_way_84 : decode cX6_way 84 = .ok (.aload_n 0, 1) := by decide +kernel
theorem dX6_way_85 : decode cX6_way 85 = .ok (.getfield 16, 3) := by decide +kernel
theorem dX6_way_88 : decode cX6_way 88 = .ok (.bipush 76, 2) := by decide +kernel
theorem dX6_way_90 : decode cX6_way 90 = .ok (.iconst 2, 1) := by decide +kernel
theorem dX6_way_91 : decode cX6_way 91 = .ok (.iload_n 1, 1) := by decide +kernel
theorem dX6_way_92 : decode cX6_way 92 = .ok (.imul, 1) := by decide +kernel
theorem dX6_way_93 : decode cX6_way 93 = .ok (.iadd, 1) := by decide +kernel
theorem dX6_way_94 : decode cX6_way 94 = .ok (.iaload, 1) := by decide +kernel
theorem dX6_way_95 : decode cX6_way 95 = .ok (.ireturn, 1) := by decide +kernel
theorem dX6_addRoom_0 : decode cX6_addRoom 0 = .ok (.iload_n 1, 1) := by decide +kernel
theorem dX6_addRoom_1 : decode cX6_addRoom 1 = .ok (.i2l, 1) := by decide +kernel
theorem dX6_addRoom_2 : decode cX6_addRoom 2 = .ok (.lconst 1, 1) := by decide +kernel
theorem dX6_addRoom_3 : decode cX6_addRoom 3 = .ok (.ldc2_w 132, 3) := by decide +kernel
theorem dX6_addRoom_6 : decode cX6_addRoom 6 = .ok (.invokestatic 49, 3) := by decide +kernel
theorem dX6_addRoom_9 : decode cX6_addRoom 9 = .ok (.ifCond .eq 46, 3) := by decide +kernel
theorem dX6_addRoom_12 : decode cX6_addRoom 12 = .ok (.iload_n 2, 1) := by decide +kernel
theorem dX6_addRoom_13 : decode cX6_addRoom 13 = .ok (.i2l, 1) := by decide +kernel
theorem dX6_addRoom_14 : decode cX6_addRoom 14 = .ok (.ldc2_w 40, 3) := by decide +kernel
theorem dX6_addRoom_17 : decode cX6_addRoom 17 = .ok (.ldc2_w 194, 3) := by decide +kernel
theorem dX6_addRoom_20 : decode cX6_addRoom 20 = .ok (.invokestatic 49, 3) := by decide +kernel
theorem dX6_addRoom_23 : decode cX6_addRoom 23 = .ok (.ifCond .eq 32, 3) := by decide +kernel
theorem dX6_addRoom_26 : decode cX6_addRoom 26 = .ok (.iload_n 3, 1) := by decide +kernel
theorem dX6_addRoom_27 : decode cX6_addRoom 27 = .ok (.i2l, 1) := by decide +kernel
theorem dX6_addRoom_28 : decode cX6_addRoom 28 = .ok (.lconst 1, 1) := by decide +kernel
theorem dX6_addRoom_29 : decode cX6_addRoom 29 = .ok (.ldc2_w 132, 3) := by decide +kernel
theorem dX6_addRoom_32 : decode cX6_addRoom 32 = .ok (.invokestatic 49, 3) := by decide +kernel
theorem dX6_addRoom_35 : decode cX6_addRoom 35 = .ok (.ifCond .eq 20, 3) := by decide +kernel
theorem dX6_addRoom_38 : decode cX6_addRoom 38 = .ok (.iload 4, 2) := by decide +kernel
theorem dX6_addRoom_40 : decode cX6_addRoom 40 = .ok (.i2l, 1) := by decide +kernel
theorem dX6_addRoom_41 : decode cX6_addRoom 41 = .ok (.lconst 0, 1) := by decide +kernel
theorem dX6_addRoom_42 : decode cX6_addRoom 42 = .ok (.ldc2_w 132, 3) := by decide +kernel
theorem dX6_addRoom_45 : decode cX6_addRoom 45 = .ok (.invokestatic 49, 3) := by decide +kernel
theorem dX6_addRoom_48 : decode cX6_addRoom 48 = .ok (.ifCond .eq 7, 3) := by decide +kernel
theorem dX6_addRoom_51 : decode cX6_addRoom 51 = .ok (.iconst 1, 1) := by decide +kernel
theorem dX6_addRoom_52 : decode cX6_addRoom 52 = .ok (.goto 4, 3) := by decide +kernel
theorem dX6_addRoom_55 : decode cX6_addRoom 55 = .ok (.iconst 0, 1) := by decide +kernel
theorem dX6_addRoom_56 : decode cX6_addRoom 56 = .ok (.istore 5, 2) := by decide +kernel
theorem dX6_addRoom_58 : decode cX6_addRoom 58 = .ok (.aload_n 0, 1) := by decide +kernel
theorem dX6_addRoom_59 : decode cX6_addRoom 59 = .ok (.iload 5, 2) := by decide +kernel
theorem dX6_addRoom_61 : decode cX6_addRoom 61 = .ok (.ifCond .ne 7, 3) := by decide +kernel
theorem dX6_addRoom_64 : decode cX6_addRoom 64 = .ok (.iconst 1, 1) := by decide +kernel
theorem dX6_addRoom_65 : decode cX6_addRoom 65 = .ok (.goto 19, 3) := by decide +kernel
theorem dX6_addRoom_68 : decode cX6_addRoom 68 = .ok (.aload_n 0, 1) := by decide +kernel
theorem dX6_addRoom_69 : decode cX6_addRoom 69 = .ok (.getfield 16, 3) := by decide +kernel
theorem dX6_addRoom_72 : decode cX6_addRoom 72 = .ok (.iconst 0, 1) := by decide +kernel
theorem dX6_addRoom_73 : decode cX6_addRoom 73 = .ok (.iaload, 1) := by decide +kernel
theorem dX6_addRoom_74 : decode cX6_addRoom 74 = .ok (.bipush 6, 2) := by decide +kernel
theorem dX6_addRoom_76 : decode cX6_addRoom 76 = .ok (.if_icmp .ne 7, 3) := by decide +kernel
theorem dX6_addRoom_79 : decode cX6_addRoom 79 = .ok (.iconst 2, 1) := by decide +kernel
theorem dX6_addRoom_80 : decode cX6_addRoom 80 = .ok (.goto 4, 3) := by decide +kernel
theorem dX6_addRoom_83 : decode cX6_addRoom 83 = .ok (.iconst 0, 1) := by decide +kernel
theorem dX6_addRoom_84 : decode cX6_addRoom 84 = .ok (.invokevirtual 121, 3) := by decide +kernel
theorem dX6_addRoom_87 : decode cX6_addRoom 87 = .ok (.ifCond .eq 5, 3) := by decide +kernel
theorem dX6_addRoom_90 : decode cX6_addRoom 90 = .ok (.iconst 0, 1) := by decide +kernel
theorem dX6_addRoom_91 : decode cX6_addRoom 91 = .ok (.ireturn, 1) := by decide +kernel
theorem dX6_addRoom_92 : decode cX6_addRoom 92 = .ok (.aload_n 0, 1) := by decide +kernel
theorem dX6_addRoom_93 : decode cX6_addRoom 93 = .ok (.invokevirtual 196, 3) := by decide +kernel
theorem dX6_addRoom_96 : decode cX6_addRoom 96 = .ok (.aload_n 0, 1) := by decide +kernel
theorem dX6_addRoom_97 : decode cX6_addRoom 97 = .ok (.getfield 16, 3) := by decide +kernel
theorem dX6_addRoom_100 : decode cX6_addRoom 100 = .ok (.iload_n 1, 1) := by decide +kernel
theorem dX6_addRoom_101 : decode cX6_addRoom 101 = .ok (.iload_n 2, 1) := by decide +kernel
theorem dX6_addRoom_102 : decode cX6_addRoom 102 = .ok (.iload_n 3, 1) := by decide +kernel
theorem dX6_addRoom_103 : decode cX6_addRoom 103 = .ok (.iload 4, 2) := by decide +kernel
theorem dX6_addRoom_105 : decode cX6_addRoom 105 = .ok (.invokestatic 144, 3) := by decide +kernel
theorem dX6_addRoom_108 : decode cX6_addRoom 108 = .ok (.aload_n 0, 1) := by decide +kernel
theorem dX6_addRoom_109 : decode cX6_addRoom 109 = .ok (.getfield 16, 3) := by decide +kernel
theorem dX6_addRoom_112 : decode cX6_addRoom 112 = .ok (.iconst 0, 1) := by decide +kernel
theorem dX6_addRoom_113 : decode cX6_addRoom 113 = .ok (.iaload, 1) := by decide +kernel
theorem dX6_addRoom_114 : decode cX6_addRoom 114 = .ok (.iconst 1, 1) := by decide +kernel
theorem dX6_addRoom_115 : decode cX6_addRoom 115 = .ok (.isub, 1) := by decide +kernel
theorem dX6_addRoom_116 : decode cX6_addRoom 116 = .ok (.ireturn, 1) := by decide +kernel
theorem dX6_setRoom_0 : decode cX6_setRoom 0 = .ok (.iload_n 2, 1) := by decide +kernel
theorem dX6_setRoom_1 : decode cX6_setRoom 1 = .ok (.ifCond .ne 17, 3) := by decide +kernel
theorem dX6_setRoom_4 : decode cX6_setRoom 4 = .ok (.iload_n 3, 1) := by decide +kernel
theorem dX6_setRoom_5 : decode cX6_setRoom 5 = .ok (.i2l, 1) := by decide +kernel
theorem dX6_setRoom_6 : decode cX6_setRoom 6 = .ok (.ldc2_w 40, 3) := by decide +kernel
theorem dX6_setRoom_9 : decode cX6_setRoom 9 = .ok (.ldc2_w 194, 3) := by decide +kernel
theorem dX6_setRoom_12 : decode cX6_setRoom 12 = .ok (.invokestatic 49, 3) := by decide +kernel
theorem dX6_setRoom_15 : decode cX6_setRoom 15 = .ok (.ifCond .ne 37, 3) := by decide +kernel
theorem dX6_setRoom_18 : decode cX6_setRoom 18 = .ok (.iload_n 2, 1) := by decide +kernel
theorem dX6_setRoom_19 : decode cX6_setRoom 19 = .ok (.iconst 1, 1) := by decide +kernel
theorem dX6_setRoom_20 : decode cX6_setRoom 20 = .ok (.if_icmp .ne 15, 3) := by decide +kernel
theorem dX6_setRoom_23 : decode cX6_setRoom 23 = .ok (.iload_n 3, 1) := by decide +kernel
theorem dX6_setRoom_24 : decode cX6_setRoom 24 = .ok (.i2l, 1) := by decide +kernel
theorem dX6_setRoom_25 : decode cX6_setRoom 25 = .ok (.lconst 1, 1) := by decide +kernel
theorem dX6_setRoom_26 : decode cX6_setRoom 26 = .ok (.ldc2_w 132, 3) := by decide +kernel
theorem dX6_setRoom_29 : decode cX6_setRoom 29 = .ok (.invokestatic 49, 3) := by decide +kernel
theorem dX6_setRoom_32 : decode cX6_setRoom 32 = .ok (.ifCond .ne 20, 3) := by decide +kernel
theorem dX6_setRoom_35 : decode cX6_setRoom 35 = .ok (.iload_n 2, 1) := by decide +kernel
theorem dX6_setRoom_36 : decode cX6_setRoom 36 = .ok (.iconst 2, 1) := by decide +kernel
theorem dX6_setRoom_37 : decode cX6_setRoom 37 = .ok (.if_icmp .ne 19, 3) := by decide +kernel
theorem dX6_setRoom_40 : decode cX6_setRoom 40 = .ok (.iload_n 3, 1) := by decide +kernel
theorem dX6_setRoom_41 : decode cX6_setRoom 41 = .ok (.i2l, 1) := by decide +kernel
theorem dX6_setRoom_42 : decode cX6_setRoom 42 = .ok (.lconst 0, 1) := by decide +kernel
theorem dX6_setRoom_43 : decode cX6_setRoom 43 = .ok (.ldc2_w 132, 3) := by decide +kernel
theorem dX6_setRoom_46 : decode cX6_setRoom 46 = .ok (.invokestatic 49, 3) := by decide +kernel
theorem dX6_setRoom_49 : decode cX6_setRoom 49 = .ok (.ifCond .eq 7, 3) := by decide +kernel
theorem dX6_setRoom_52 : decode cX6_setRoom 52 = .ok (.iconst 1, 1) := by decide +kernel
theorem dX6_setRoom_53 : decode cX6_setRoom 53 = .ok (.goto 4, 3) := by decide +kernel
theorem dX6_setRoom_56 : decode cX6_setRoom 56 = .ok (.iconst 0, 1) := by decide +kernel
theorem dX6_setRoom_57 : decode cX6_setRoom 57 = .ok (.istore 4, 2) := by decide +kernel
theorem dX6_setRoom_59 : decode cX6_setRoom 59 = .ok (.aload_n 0, 1) := by decide +kernel
theorem dX6_setRoom_60 : decode cX6_setRoom 60 = .ok (.aload_n 0, 1) := by decide +kernel
theorem dX6_setRoom_61 : decode cX6_setRoom 61 = .ok (.iload_n 1, 1) := by decide +kernel
theorem dX6_setRoom_62 : decode cX6_setRoom 62 = .ok (.invokevirtual 186, 3) := by decide +kernel
theorem dX6_setRoom_65 : decode cX6_setRoom 65 = .ok (.ifCond .ne 7, 3) := by decide +kernel
theorem dX6_setRoom_68 : decode cX6_setRoom 68 = .ok (.iconst 1, 1) := by decide +kernel
theorem dX6_setRoom_69 : decode cX6_setRoom 69 = .ok (.goto 13, 3) := by decide +kernel
theorem dX6_setRoom_72 : decode cX6_setRoom 72 = .ok (.iload 4, 2) := by decide +kernel
theorem dX6_setRoom_74 : decode cX6_setRoom 74 = .ok (.ifCond .eq 7, 3) := by decide +kernel
theorem dX6_setRoom_77 : decode cX6_setRoom 77 = .ok (.iconst 0, 1) := by decide +kernel
theorem dX6_setRoom_78 : decode cX6_setRoom 78 = .ok (.goto 4, 3) := by decide +kernel
theorem dX6_setRoom_81 : decode cX6_setRoom 81 = .ok (.iconst 2, 1) := by decide +kernel
theorem dX6_setRoom_82 : decode cX6_setRoom 82 = .ok (.invokevirtual 121, 3) := by decide +kernel
theorem dX6_setRoom_85 : decode cX6_setRoom 85 = .ok (.ifCond .eq 5, 3) := by decide +kernel
theorem dX6_setRoom_88 : decode cX6_setRoom 88 = .ok (.iconst 0, 1) := by decide +kernel
theorem dX6_setRoom_89 : decode cX6_setRoom 89 = .ok (.ireturn, 1) := by decide +kernel
theorem dX6_setRoom_90 : decode cX6_setRoom 90 = .ok (.aload_n 0, 1) := by decide +kernel
theorem dX6_setRoom_91 : decode cX6_setRoom 91 = .ok (.invokevirtual 196, 3) := by decide +kernel
theorem dX6_setRoom_94 : decode cX6_setRoom 94 = .ok (.aload_n 0, 1) := by decide +kernel
theorem dX6_setRoom_95 : decode cX6_setRoom 95 = .ok (.getfield 16, 3) := by decide +kernel
theorem dX6_setRoom_98 : decode cX6_setRoom 98 = .ok (.iload_n 1, 1) := by decide +kernel
theorem dX6_setRoom_99 : decode cX6_setRoom 99 = .ok (.iconst 1, 1) := by decide +kernel
theorem dX6_setRoom_100 : decode cX6_setRoom 100 = .ok (.iload_n 2, 1) := by decide +kernel
theorem dX6_setRoom_101 : decode cX6_setRoom 101 = .ok (.iadd, 1) := by decide +kernel
theorem dX6_setRoom_102 : decode cX6_setRoom 102 = .ok (.invokestatic 53, 3) := by decide +kernel
theorem dX6_setRoom_105 : decode cX6_setRoom 105 = .ok (.iaload, 1) := by decide +kernel
theorem dX6_setRoom_106 : decode cX6_setRoom 106 = .ok (.istore 5, 2) := by decide +kernel
theorem dX6_setRoom_108 : decode cX6_setRoom 108 = .ok (.aload_n 0, 1) := by decide +kernel
theorem dX6_setRoom_109 : decode cX6_setRoom 109 = .ok (.getfield 16, 3) := by decide +kernel
theorem dX6_setRoom_112 : decode cX6_setRoom 112 = .ok (.iload_n 1, 1) := by decide +kernel
theorem dX6_setRoom_113 : decode cX6_setRoom 113 = .ok (.iconst 1, 1) := by decide +kernel
theorem dX6_setRoom_114 : decode cX6_setRoom 114 = .ok (.iload_n 2, 1) := by decide +kernel
theorem dX6_setRoom_115 : decode cX6_setRoom 115 = .ok (.iadd, 1) := by decide +kernel
theorem dX6_setRoom_116 : decode cX6_setRoom 116 = .ok (.invokestatic 53, 3) := by decide +kernel
theorem dX6_setRoom_119 : decode cX6_setRoom 119 = .ok (.iload_n 3, 1) := by decide +kernel
theorem dX6_setRoom_120 : decode cX6_setRoom 120 = .ok (.iastore, 1) := by decide +kernel
theorem dX6_setRoom_121 : decode cX6_setRoom 121 = .ok (.iload 5, 2) := by decide +kernel
theorem dX6_setRoom_123 : decode cX6_setRoom 123 = .ok (.ireturn, 1) := by decide +kernel
theorem dX6_window_0 : decode cX6_window 0 = .ok (.aload_n 0, 1) := by decide +kernel
theorem dX6_window_1 : decode cX6_window 1 = .ok (.aload_n 0, 1) := by decide +kernel
theorem dX6_window_2 : decode cX6_window 2 = .ok (.iload_n 1, 1) := by decide +kernel
theorem dX6_window_3 : decode cX6_window 3 = .ok (.invokevirtual 186, 3) := by decide +kernel
theorem dX6_window_6 : decode cX6_window 6 = .ok (.ifCond .eq 7, 3) := by decide +kernel
theorem dX6_window_9 : decode cX6_window 9 = .ok (.iconst 0, 1) := by decide +kernel
theorem dX6_window_10 : decode cX6_window 10 = .ok (.goto 4, 3) := by decide +kernel
theorem dX6_window_13 : decode cX6_window 13 = .ok (.iconst 1, 1) := by decide +kernel
theorem dX6_window_14 : decode cX6_window 14 = .ok (.invokevirtual 121, 3) := by decide +kernel
theorem dX6_window_17 : decode cX6_window 17 = .ok (.ifCond .eq 5, 3) := by decide +kernel
theorem dX6_window_20 : decode cX6_window 20 = .ok (.iconst 0, 1) := by decide +kernel
theorem dX6_window_21 : decode cX6_window 21 = .ok (.ireturn, 1) := by decide +kernel
theorem dX6_window_22 : decode cX6_window 22 = .ok (.aload_n 0, 1) := by decide +kernel
theorem dX6_window_23 : decode cX6_window 23 = .ok (.invokevirtual 196, 3) := by decide +kernel
theorem dX6_window_26 : decode cX6_window 26 = .ok (.aload_n 0, 1) := by decide +kernel
theorem dX6_window_27 : decode cX6_window 27 = .ok (.getfield 16, 3) := by decide +kernel
theorem dX6_window_30 : decode cX6_window 30 = .ok (.iload_n 1, 1) := by decide +kernel
theorem dX6_window_31 : decode cX6_window 31 = .ok (.iconst 4, 1) := by decide +kernel
theorem dX6_window_32 : decode cX6_window 32 = .ok (.invokestatic 53, 3) := by decide +kernel
theorem dX6_window_35 : decode cX6_window 35 = .ok (.iload_n 2, 1) := by decide +kernel
theorem dX6_window_36 : decode cX6_window 36 = .ok (.ifCond .eq 7, 3) := by decide +kernel
theorem dX6_window_39 : decode cX6_window 39 = .ok (.iconst 1, 1) := by decide +kernel
theorem dX6_window_40 : decode cX6_window 40 = .ok (.goto 4, 3) := by decide +kernel
theorem dX6_window_43 : decode cX6_window 43 = .ok (.iconst 0, 1) := by decide +kernel
theorem dX6_window_44 : decode cX6_window 44 = .ok (.iastore, 1) := by decide +kernel
theorem dX6_window_45 : decode cX6_window 45 = .ok (.aload_n 0, 1) := by decide +kernel
theorem dX6_window_46 : decode cX6_window 46 = .ok (.getfield 16, 3) := by decide +kernel
theorem dX6_window_49 : decode cX6_window 49 = .ok (.iconst 4, 1) := by decide +kernel
theorem dX6_window_50 : decode cX6_window 50 = .ok (.invokestatic 176, 3) := by decide +kernel
theorem dX6_window_53 : decode cX6_window 53 = .ok (.ireturn, 1) := by decide +kernel
theorem dX6_isSetting_0 : decode cX6_isSetting 0 = .ok (.iload_n 0, 1) := by decide +kernel
theorem dX6_isSetting_1 : decode cX6_isSetting 1 = .ok (.i2l, 1) := by decide +kernel
theorem dX6_isSetting_2 : decode cX6_isSetting 2 = .ok (.lconst 0, 1) := by decide +kernel
theorem dX6_isSetting_3 : decode cX6_isSetting 3 = .ok (.ldc2_w 179, 3) := by decide +kernel
theorem dX6_isSetting_6 : decode cX6_isSetting 6 = .ok (.invokestatic 49, 3) := by decide +kernel
theorem dX6_isSetting_9 : decode cX6_isSetting 9 = .ok (.ifCond .eq 25, 3) := by decide +kernel
theorem dX6_isSetting_12 : decode cX6_isSetting 12 = .ok (.iload_n 1, 1) := by decide +kernel
theorem dX6_isSetting_13 : decode cX6_isSetting 13 = .ok (.i2l, 1) := by decide +kernel
theorem dX6_isSetting_14 : decode cX6_isSetting 14 = .ok (.iload_n 0, 1) := by decide +kernel
theorem dX6_isSetting_15 : decode cX6_isSetting 15 = .ok (.invokestatic 151, 3) := by decide +kernel
theorem dX6_isSetting_18 : decode cX6_isSetting 18 = .ok (.i2l, 1) := by decide +kernel
theorem dX6_isSetting_19 : decode cX6_isSetting 19 = .ok (.iload_n 0, 1) := by decide +kernel
theorem dX6_isSetting_20 : decode cX6_isSetting 20 = .ok (.invokestatic 155, 3) := by decide +kernel
theorem dX6_isSetting_23 : decode cX6_isSetting 23 = .ok (.i2l, 1) := by decide +kernel
theorem dX6_isSetting_24 : decode cX6_isSetting 24 = .ok (.invokestatic 49, 3) := by decide +kernel
theorem dX6_isSetting_27 : decode cX6_isSetting 27 = .ok (.ifCond .eq 7, 3) := by decide +kernel
theorem dX6_isSetting_30 : decode cX6_isSetting 30 = .ok (.iconst 1, 1) := by decide +kernel
theorem dX6_isSetting_31 : decode cX6_isSetting 31 = .ok (.goto 4, 3) := by decide +kernel
theorem dX6_isSetting_34 : decode cX6_isSetting 34 = .ok (.iconst 0, 1) := by decide +kernel
theorem dX6_isSetting_35 : decode cX6_isSetting 35 = .ok (.ireturn, 1) := by decide +kernel
theorem dX6_set_0 : decode cX6_set 0 = .ok (.aload_n 0, 1) := by decide +kernel
theorem dX6_set_1 : decode cX6_set 1 = .ok (.iload_n 1, 1) := by decide +kernel
theorem dX6_set_2 : decode cX6_set 2 = .ok (.iload_n 2, 1) := by decide +kernel
theorem dX6_set_3 : decode cX6_set 3 = .ok (.invokestatic 199, 3) := by decide +kernel
theorem dX6_set_6 : decode cX6_set 6 = .ok (.ifCond .eq 7, 3) := by decide +kernel
theorem dX6_set_9 : decode cX6_set 9 = .ok (.iconst 0, 1) := by decide +kernel
theorem dX6_set_10 : decode cX6_set 10 = .ok (.goto 4, 3) := by decide +kernel
theorem dX6_set_13 : decode cX6_set 13 = .ok (.iconst 1, 1) := by decide +kernel
theorem dX6_set_14 : decode cX6_set 14 = .ok (.invokevirtual 121, 3) := by decide +kernel
theorem dX6_set_17 : decode cX6_set 17 = .ok (.ifCond .eq 5, 3) := by decide +kernel
theorem dX6_set_20 : decode cX6_set 20 = .ok (.iconst 0, 1) := by decide +kernel
theorem dX6_set_21 : decode cX6_set 21 = .ok (.ireturn, 1) := by decide +kernel
theorem dX6_set_22 : decode cX6_set 22 = .ok (.aload_n 0, 1) := by decide +kernel
theorem dX6_set_23 : decode cX6_set 23 = .ok (.invokevirtual 196, 3) := by decide +kernel
theorem dX6_set_26 : decode cX6_set 26 = .ok (.aload_n 0, 1) := by decide +kernel
theorem dX6_set_27 : decode cX6_set 27 = .ok (.getfield 16, 3) := by decide +kernel
theorem dX6_set_30 : decode cX6_set 30 = .ok (.bipush 9, 2) := by decide +kernel
theorem dX6_set_32 : decode cX6_set 32 = .ok (.iload_n 1, 1) := by decide +kernel
theorem dX6_set_33 : decode cX6_set 33 = .ok (.iadd, 1) := by decide +kernel
theorem dX6_set_34 : decode cX6_set 34 = .ok (.iaload, 1) := by decide +kernel
theorem dX6_set_35 : decode cX6_set 35 = .ok (.istore_n 3, 1) := by decide +kernel
theorem dX6_set_36 : decode cX6_set 36 = .ok (.aload_n 0, 1) := by decide +kernel
theorem dX6_set_37 : decode cX6_set 37 = .ok (.getfield 16, 3) := by decide +kernel
theorem dX6_set_40 : decode cX6_set 40 = .ok (.bipush 9, 2) := by decide +kernel
theorem dX6_set_42 : decode cX6_set 42 = .ok (.iload_n 1, 1) := by decide +kernel
theorem dX6_set_43 : decode cX6_set 43 = .ok (.iadd, 1) := by decide +kernel
theorem dX6_set_44 : decode cX6_set 44 = .ok (.iload_n 2, 1) := by decide +kernel
theorem dX6_set_45 : decode cX6_set 45 = .ok (.iastore, 1) := by decide +kernel
theorem dX6_set_46 : decode cX6_set 46 = .ok (.iload_n 3, 1) := by decide +kernel
theorem dX6_set_47 : decode cX6_set 47 = .ok (.ireturn, 1) := by decide +kernel
theorem dX6_isOutside_0 : decode cX6_isOutside 0 = .ok (.iload_n 0, 1) := by decide +kernel
theorem dX6_isOutside_1 : decode cX6_isOutside 1 = .ok (.i2l, 1) := by decide +kernel
theorem dX6_isOutside_2 : decode cX6_isOutside 2 = .ok (.ldc2_w 203, 3) := by decide +kernel
theorem dX6_isOutside_5 : decode cX6_isOutside 5 = .ok (.ldc2_w 205, 3) := by decide +kernel
theorem dX6_isOutside_8 : decode cX6_isOutside 8 = .ok (.invokestatic 49, 3) := by decide +kernel
theorem dX6_isOutside_11 : decode cX6_isOutside 11 = .ok (.ireturn, 1) := by decide +kernel
theorem dX6_outside_0 : decode cX6_outside 0 = .ok (.aload_n 0, 1) := by decide +kernel
theorem dX6_outside_1 : decode cX6_outside 1 = .ok (.iload_n 1, 1) := by decide +kernel
theorem dX6_outside_2 : decode cX6_outside 2 = .ok (.invokestatic 207, 3) := by decide +kernel
theorem dX6_outside_5 : decode cX6_outside 5 = .ok (.ifCond .eq 7, 3) := by decide +kernel
theorem dX6_outside_8 : decode cX6_outside 8 = .ok (.iconst 0, 1) := by decide +kernel
theorem dX6_outside_9 : decode cX6_outside 9 = .ok (.goto 4, 3) := by decide +kernel
theorem dX6_outside_12 : decode cX6_outside 12 = .ok (.iconst 1, 1) := by decide +kernel
theorem dX6_outside_13 : decode cX6_outside 13 = .ok (.invokevirtual 121, 3) := by decide +kernel
theorem dX6_outside_16 : decode cX6_outside 16 = .ok (.ifCond .eq 5, 3) := by decide +kernel
theorem dX6_outside_19 : decode cX6_outside 19 = .ok (.iconst 0, 1) := by decide +kernel
theorem dX6_outside_20 : decode cX6_outside 20 = .ok (.ireturn, 1) := by decide +kernel
theorem dX6_outside_21 : decode cX6_outside 21 = .ok (.aload_n 0, 1) := by decide +kernel
theorem dX6_outside_22 : decode cX6_outside 22 = .ok (.invokevirtual 196, 3) := by decide +kernel
theorem dX6_outside_25 : decode cX6_outside 25 = .ok (.aload_n 0, 1) := by decide +kernel
theorem dX6_outside_26 : decode cX6_outside 26 = .ok (.getfield 16, 3) := by decide +kernel
theorem dX6_outside_29 : decode cX6_outside 29 = .ok (.iconst 2, 1) := by decide +kernel
theorem dX6_outside_30 : decode cX6_outside 30 = .ok (.iaload, 1) := by decide +kernel
theorem dX6_outside_31 : decode cX6_outside 31 = .ok (.istore_n 2, 1) := by decide +kernel
theorem dX6_outside_32 : decode cX6_outside 32 = .ok (.aload_n 0, 1) := by decide +kernel
theorem dX6_outside_33 : decode cX6_outside 33 = .ok (.getfield 16, 3) := by decide +kernel
theorem dX6_outside_36 : decode cX6_outside 36 = .ok (.iconst 2, 1) := by decide +kernel
theorem dX6_outside_37 : decode cX6_outside 37 = .ok (.iload_n 1, 1) := by decide +kernel
theorem dX6_outside_38 : decode cX6_outside 38 = .ok (.iastore, 1) := by decide +kernel
theorem dX6_outside_39 : decode cX6_outside 39 = .ok (.iload_n 2, 1) := by decide +kernel
theorem dX6_outside_40 : decode cX6_outside 40 = .ok (.ireturn, 1) := by decide +kernel
theorem dX6_pass_0 : decode cX6_pass 0 = .ok (.aload_n 0, 1) := by decide +kernel
theorem dX6_pass_1 : decode cX6_pass 1 = .ok (.iload_n 1, 1) := by decide +kernel
theorem dX6_pass_2 : decode cX6_pass 2 = .ok (.i2l, 1) := by decide +kernel
theorem dX6_pass_3 : decode cX6_pass 3 = .ok (.lconst 1, 1) := by decide +kernel
theorem dX6_pass_4 : decode cX6_pass 4 = .ok (.ldc2_w 210, 3) := by decide +kernel
theorem dX6_pass_7 : decode cX6_pass 7 = .ok (.invokestatic 49, 3) := by decide +kernel
theorem dX6_pass_10 : decode cX6_pass 10 = .ok (.ifCond .eq 7, 3) := by decide +kernel
theorem dX6_pass_13 : decode cX6_pass 13 = .ok (.iconst 0, 1) := by decide +kernel
theorem dX6_pass_14 : decode cX6_pass 14 = .ok (.goto 4, 3) := by decide +kernel
theorem dX6_pass_17 : decode cX6_pass 17 = .ok (.iconst 1, 1) := by decide +kernel
theorem dX6_pass_18 : decode cX6_pass 18 = .ok (.invokevirtual 121, 3) := by decide +kernel
theorem dX6_pass_21 : decode cX6_pass 21 = .ok (.ifCond .eq 5, 3) := by decide +kernel
theorem dX6_pass_24 : decode cX6_pass 24 = .ok (.iconst 0, 1) := by decide +kernel
theorem dX6_pass_25 : decode cX6_pass 25 = .ok (.ireturn, 1) := by decide +kernel
theorem dX6_pass_26 : decode cX6_pass 26 = .ok (.aload_n 0, 1) := by decide +kernel
theorem dX6_pass_27 : decode cX6_pass 27 = .ok (.invokevirtual 196, 3) := by decide +kernel
theorem dX6_pass_30 : decode cX6_pass 30 = .ok (.aload_n 0, 1) := by decide +kernel
theorem dX6_pass_31 : decode cX6_pass 31 = .ok (.getfield 16, 3) := by decide +kernel
theorem dX6_pass_34 : decode cX6_pass 34 = .ok (.iload_n 1, 1) := by decide +kernel
theorem dX6_pass_35 : decode cX6_pass 35 = .ok (.invokestatic 212, 3) := by decide +kernel
theorem dX6_pass_38 : decode cX6_pass 38 = .ok (.ireturn, 1) := by decide +kernel
theorem dX6_undo_0 : decode cX6_undo 0 = .ok (.aload_n 0, 1) := by decide +kernel
theorem dX6_undo_1 : decode cX6_undo 1 = .ok (.aload_n 0, 1) := by decide +kernel
theorem dX6_undo_2 : decode cX6_undo 2 = .ok (.getfield 42, 3) := by decide +kernel
theorem dX6_undo_5 : decode cX6_undo 5 = .ok (.ifCond .ne 7, 3) := by decide +kernel
theorem dX6_undo_8 : decode cX6_undo 8 = .ok (.iconst 1, 1) := by decide +kernel
theorem dX6_undo_9 : decode cX6_undo 9 = .ok (.goto 4, 3) := by decide +kernel
theorem dX6_undo_12 : decode cX6_undo 12 = .ok (.iconst 0, 1) := by decide +kernel
theorem dX6_undo_13 : decode cX6_undo 13 = .ok (.invokevirtual 121, 3) := by decide +kernel
theorem dX6_undo_16 : decode cX6_undo 16 = .ok (.ifCond .eq 5, 3) := by decide +kernel
theorem dX6_undo_19 : decode cX6_undo 19 = .ok (.iconst 0, 1) := by decide +kernel
theorem dX6_undo_20 : decode cX6_undo 20 = .ok (.ireturn, 1) := by decide +kernel
theorem dX6_undo_21 : decode cX6_undo 21 = .ok (.aload_n 0, 1) := by decide +kernel
theorem dX6_undo_22 : decode cX6_undo 22 = .ok (.dup, 1) := by decide +kernel
theorem dX6_undo_23 : decode cX6_undo 23 = .ok (.getfield 42, 3) := by decide +kernel
theorem dX6_undo_26 : decode cX6_undo 26 = .ok (.iconst 1, 1) := by decide +kernel
theorem dX6_undo_27 : decode cX6_undo 27 = .ok (.isub, 1) := by decide +kernel
theorem dX6_undo_28 : decode cX6_undo 28 = .ok (.putfield 42, 3) := by decide +kernel
theorem dX6_undo_31 : decode cX6_undo 31 = .ok (.aload_n 0, 1) := by decide +kernel
theorem dX6_undo_32 : decode cX6_undo 32 = .ok (.getfield 22, 3) := by decide +kernel
theorem dX6_undo_35 : decode cX6_undo 35 = .ok (.sipush 128, 3) := by decide +kernel
theorem dX6_undo_38 : decode cX6_undo 38 = .ok (.aload_n 0, 1) := by decide +kernel
theorem dX6_undo_39 : decode cX6_undo 39 = .ok (.getfield 42, 3) := by decide +kernel
theorem dX6_undo_42 : decode cX6_undo 42 = .ok (.imul, 1) := by decide +kernel
theorem dX6_undo_43 : decode cX6_undo 43 = .ok (.aload_n 0, 1) := by decide +kernel
theorem dX6_undo_44 : decode cX6_undo 44 = .ok (.getfield 16, 3) := by decide +kernel
theorem dX6_undo_47 : decode cX6_undo 47 = .ok (.iconst 0, 1) := by decide +kernel
theorem dX6_undo_48 : decode cX6_undo 48 = .ok (.sipush 128, 3) := by decide +kernel
theorem dX6_undo_51 : decode cX6_undo 51 = .ok (.invokestatic 45, 3) := by decide +kernel
theorem dX6_undo_54 : decode cX6_undo 54 = .ok (.aload_n 0, 1) := by decide +kernel
theorem dX6_undo_55 : decode cX6_undo 55 = .ok (.getfield 42, 3) := by decide +kernel
theorem dX6_undo_58 : decode cX6_undo 58 = .ok (.ireturn, 1) := by decide +kernel
theorem dX6_isAhead_0 : decode cX6_isAhead 0 = .ok (.iload_n 0, 1) := by decide +kernel
theorem dX6_isAhead_1 : decode cX6_isAhead 1 = .ok (.i2l, 1) := by decide +kernel
theorem dX6_isAhead_2 : decode cX6_isAhead 2 = .ok (.lconst 0, 1) := by decide +kernel
theorem dX6_isAhead_3 : decode cX6_isAhead 3 = .ok (.ldc2_w 215, 3) := by decide +kernel
theorem dX6_isAhead_6 : decode cX6_isAhead 6 = .ok (.invokestatic 49, 3) := by decide +kernel
theorem dX6_isAhead_9 : decode cX6_isAhead 9 = .ok (.ireturn, 1) := by decide +kernel
theorem dX6_ahead_0 : decode cX6_ahead 0 = .ok (.aload_n 0, 1) := by decide +kernel
theorem dX6_ahead_1 : decode cX6_ahead 1 = .ok (.aload_n 0, 1) := by decide +kernel
theorem dX6_ahead_2 : decode cX6_ahead 2 = .ok (.iload_n 1, 1) := by decide +kernel
theorem dX6_ahead_3 : decode cX6_ahead 3 = .ok (.invokevirtual 181, 3) := by decide +kernel
theorem dX6_ahead_6 : decode cX6_ahead 6 = .ok (.ifCond .ne 7, 3) := by decide +kernel
theorem dX6_ahead_9 : decode cX6_ahead 9 = .ok (.iconst 1, 1) := by decide +kernel
theorem dX6_ahead_10 : decode cX6_ahead 10 = .ok (.goto 15, 3) := by decide +kernel
theorem dX6_ahead_13 : decode cX6_ahead 13 = .ok (.iload_n 2, 1) := by decide +kernel
theorem dX6_ahead_14 : decode cX6_ahead 14 = .ok (.invokestatic 217, 3) := by decide +kernel
theorem dX6_ahead_17 : decode cX6_ahead 17 = .ok (.ifCond .eq 7, 3) := by decide +kernel
theorem dX6_ahead_20 : decode cX6_ahead 20 = .ok (.iconst 0, 1) := by decide +kernel
theorem dX6_ahead_21 : decode cX6_ahead 21 = .ok (.goto 4, 3) := by decide +kernel
theorem dX6_ahead_24 : decode cX6_ahead 24 = .ok (.iconst 2, 1) := by decide +kernel
theorem dX6_ahead_25 : decode cX6_ahead 25 = .ok (.invokevirtual 121, 3) := by decide +kernel
theorem dX6_ahead_28 : decode cX6_ahead 28 = .ok (.ifCond .eq 5, 3) := by decide +kernel
theorem dX6_ahead_31 : decode cX6_ahead 31 = .ok (.iconst 0, 1) := by decide +kernel
theorem dX6_ahead_32 : decode cX6_ahead 32 = .ok (.ireturn, 1) := by decide +kernel
theorem dX6_ahead_33 : decode cX6_ahead 33 = .ok (.aload_n 0, 1) := by decide +kernel
theorem dX6_ahead_34 : decode cX6_ahead 34 = .ok (.invokevirtual 220, 3) := by decide +kernel
theorem dX6_ahead_37 : decode cX6_ahead 37 = .ok (.aload_n 0, 1) := by decide +kernel
theorem dX6_ahead_38 : decode cX6_ahead 38 = .ok (.getfield 19, 3) := by decide +kernel
theorem dX6_ahead_41 : decode cX6_ahead 41 = .ok (.iload_n 2, 1) := by decide +kernel
theorem dX6_ahead_42 : decode cX6_ahead 42 = .ok (.invokestatic 212, 3) := by decide +kernel
theorem dX6_ahead_45 : decode cX6_ahead 45 = .ok (.pop, 1) := by decide +kernel
theorem dX6_ahead_46 : decode cX6_ahead 46 = .ok (.aload_n 0, 1) := by decide +kernel
theorem dX6_ahead_47 : decode cX6_ahead 47 = .ok (.getfield 19, 3) := by decide +kernel
theorem dX6_ahead_50 : decode cX6_ahead 50 = .ok (.iload_n 1, 1) := by decide +kernel
theorem dX6_ahead_51 : decode cX6_ahead 51 = .ok (.invokestatic 73, 3) := by decide +kernel
theorem dX6_ahead_54 : decode cX6_ahead 54 = .ok (.ireturn, 1) := by decide +kernel
theorem dX6_minutesTo_0 : decode cX6_minutesTo 0 = .ok (.aload_n 0, 1) := by decide +kernel
theorem dX6_minutesTo_1 : decode cX6_minutesTo 1 = .ok (.aload_n 0, 1) := by decide +kernel
theorem dX6_minutesTo_2 : decode cX6_minutesTo 2 = .ok (.iload_n 1, 1) := by decide +kernel
theorem dX6_minutesTo_3 : decode cX6_minutesTo 3 = .ok (.invokevirtual 186, 3) := by decide +kernel
theorem dX6_minutesTo_6 : decode cX6_minutesTo 6 = .ok (.ifCond .eq 7, 3) := by decide +kernel
theorem dX6_minutesTo_9 : decode cX6_minutesTo 9 = .ok (.iconst 0, 1) := by decide +kernel
theorem dX6_minutesTo_10 : decode cX6_minutesTo 10 = .ok (.goto 4, 3) := by decide +kernel
theorem dX6_minutesTo_13 : decode cX6_minutesTo 13 = .ok (.iconst 1, 1) := by decide +kernel
theorem dX6_minutesTo_14 : decode cX6_minutesTo 14 = .ok (.invokevirtual 121, 3) := by decide +kernel
theorem dX6_minutesTo_17 : decode cX6_minutesTo 17 = .ok (.ifCond .eq 5, 3) := by decide +kernel
theorem dX6_minutesTo_20 : decode cX6_minutesTo 20 = .ok (.iconst 0, 1) := by decide +kernel
theorem dX6_minutesTo_21 : decode cX6_minutesTo 21 = .ok (.ireturn, 1) := by decide +kernel
theorem dX6_minutesTo_22 : decode cX6_minutesTo 22 = .ok (.aload_n 0, 1) := by decide +kernel
theorem dX6_minutesTo_23 : decode cX6_minutesTo 23 = .ok (.invokevirtual 220, 3) := by decide +kernel
theorem dX6_minutesTo_26 : decode cX6_minutesTo 26 = .ok (.iconst 0, 1) := by decide +kernel
theorem dX6_minutesTo_27 : decode cX6_minutesTo 27 = .ok (.istore_n 2, 1) := by decide +kernel
theorem dX6_minutesTo_28 : decode cX6_minutesTo 28 = .ok (.iload_n 2, 1) := by decide +kernel
theorem dX6_minutesTo_29 : decode cX6_minutesTo 29 = .ok (.sipush 240, 3) := by decide +kernel
theorem dX6_minutesTo_32 : decode cX6_minutesTo 32 = .ok (.if_icmp .gt 42, 3) := by decide +kernel
theorem dX6_minutesTo_35 : decode cX6_minutesTo 35 = .ok (.aload_n 0, 1) := by decide +kernel
theorem dX6_minutesTo_36 : decode cX6_minutesTo 36 = .ok (.getfield 19, 3) := by decide +kernel
theorem dX6_minutesTo_39 : decode cX6_minutesTo 39 = .ok (.iconst 2, 1) := by decide +kernel
theorem dX6_minutesTo_40 : decode cX6_minutesTo 40 = .ok (.iload_n 1, 1) := by decide +kernel
theorem dX6_minutesTo_41 : decode cX6_minutesTo 41 = .ok (.iadd, 1) := by decide +kernel
theorem dX6_minutesTo_42 : decode cX6_minutesTo 42 = .ok (.invokestatic 73, 3) := by decide +kernel
theorem dX6_minutesTo_45 : decode cX6_minutesTo 45 = .ok (.aload_n 0, 1) := by decide +kernel
theorem dX6_minutesTo_46 : decode cX6_minutesTo 46 = .ok (.getfield 19, 3) := by decide +kernel
theorem dX6_minutesTo_49 : decode cX6_minutesTo 49 = .ok (.iload_n 1, 1) := by decide +kernel
theorem dX6_minutesTo_50 : decode cX6_minutesTo 50 = .ok (.iconst 1, 1) := by decide +kernel
theorem dX6_minutesTo_51 : decode cX6_minutesTo 51 = .ok (.invokestatic 53, 3) := by decide +kernel
theorem dX6_minutesTo_54 : decode cX6_minutesTo 54 = .ok (.iaload, 1) := by decide +kernel
theorem dX6_minutesTo_55 : decode cX6_minutesTo 55 = .ok (.if_icmp .lt 5, 3) := by decide +kernel
theorem dX6_minutesTo_58 : decode cX6_minutesTo 58 = .ok (.iload_n 2, 1) := by decide +kernel
theorem dX6_minutesTo_59 : decode cX6_minutesTo 59 = .ok (.ireturn, 1) := by decide +kernel
theorem dX6_minutesTo_60 : decode cX6_minutesTo 60 = .ok (.aload_n 0, 1) := by decide +kernel
theorem dX6_minutesTo_61 : decode cX6_minutesTo 61 = .ok (.getfield 19, 3) := by decide +kernel
theorem dX6_minutesTo_64 : decode cX6_minutesTo 64 = .ok (.invokestatic 113, 3) := by decide +kernel
theorem dX6_minutesTo_67 : decode cX6_minutesTo 67 = .ok (.pop, 1) := by decide +kernel
theorem dX6_minutesTo_68 : decode cX6_minutesTo 68 = .ok (.iinc 2 1, 3) := by decide +kernel
theorem dX6_minutesTo_71 : decode cX6_minutesTo 71 = .ok (.goto (-43), 3) := by decide +kernel
theorem dX6_minutesTo_74 : decode cX6_minutesTo 74 = .ok (.ldc 64, 2) := by decide +kernel
theorem dX6_minutesTo_76 : decode cX6_minutesTo 76 = .ok (.ireturn, 1) := by decide +kernel
theorem dX6_whyOff_0 : decode cX6_whyOff 0 = .ok (.aload_n 0, 1) := by decide +kernel
theorem dX6_whyOff_1 : decode cX6_whyOff 1 = .ok (.iconst 0, 1) := by decide +kernel
theorem dX6_whyOff_2 : decode cX6_whyOff 2 = .ok (.putfield 36, 3) := by decide +kernel
theorem dX6_whyOff_5 : decode cX6_whyOff 5 = .ok (.aload_n 0, 1) := by decide +kernel
theorem dX6_whyOff_6 : decode cX6_whyOff 6 = .ok (.invokevirtual 220, 3) := by decide +kernel
theorem dX6_whyOff_9 : decode cX6_whyOff 9 = .ok (.aload_n 0, 1) := by decide +kernel
theorem dX6_whyOff_10 : decode cX6_whyOff 10 = .ok (.getfield 19, 3) := by decide +kernel
theorem dX6_whyOff_13 : decode cX6_whyOff 13 = .ok (.invokestatic 91, 3) := by decide +kernel
theorem dX6_whyOff_16 : decode cX6_whyOff 16 = .ok (.aload_n 0, 1) := by decide +kernel
theorem dX6_whyOff_17 : decode cX6_whyOff 17 = .ok (.getfield 19, 3) := by decide +kernel
theorem dX6_whyOff_20 : decode cX6_whyOff 20 = .ok (.invokestatic 94, 3) := by decide +kernel
theorem dX6_whyOff_23 : decode cX6_whyOff 23 = .ok (.aload_n 0, 1) := by decide +kernel
theorem dX6_whyOff_24 : decode cX6_whyOff 24 = .ok (.getfield 19, 3) := by decide +kernel
theorem dX6_whyOff_27 : decode cX6_whyOff 27 = .ok (.iconst 3, 1) := by decide +kernel
theorem dX6_whyOff_28 : decode cX6_whyOff 28 = .ok (.iaload, 1) := by decide +kernel
theorem dX6_whyOff_29 : decode cX6_whyOff 29 = .ok (.iconst 1, 1) := by decide +kernel
theorem dX6_whyOff_30 : decode cX6_whyOff 30 = .ok (.if_icmp .ne 5, 3) := by decide +kernel
theorem dX6_whyOff_33 : decode cX6_whyOff 33 = .ok (.iconst 0, 1) := by decide +kernel
theorem dX6_whyOff_34 : decode cX6_whyOff 34 = .ok (.ireturn, 1) := by decide +kernel
theorem dX6_whyOff_35 : decode cX6_whyOff 35 = .ok (.aload_n 0, 1) := by decide +kernel
theorem dX6_whyOff_36 : decode cX6_whyOff 36 = .ok (.getfield 19, 3) := by decide +kernel
theorem dX6_whyOff_39 : decode cX6_whyOff 39 = .ok (.bipush 6, 2) := by decide +kernel
theorem dX6_whyOff_41 : decode cX6_whyOff 41 = .ok (.iaload, 1) := by decide +kernel
theorem dX6_whyOff_42 : decode cX6_whyOff 42 = .ok (.iconst 1, 1) := by decide +kernel
theorem dX6_whyOff_43 : decode cX6_whyOff 43 = .ok (.if_icmp .ne 7, 3) := by decide +kernel
theorem dX6_whyOff_46 : decode cX6_whyOff 46 = .ok (.iconst 1, 1) := by decide +kernel
theorem dX6_whyOff_47 : decode cX6_whyOff 47 = .ok (.goto 40, 3) := by decide +kernel
theorem dX6_whyOff_50 : decode cX6_whyOff 50 = .ok (.aload_n 0, 1) := by decide +kernel
theorem dX6_whyOff_51 : decode cX6_whyOff 51 = .ok (.getfield 19, 3) := by decide +kernel
theorem dX6_whyOff_54 : decode cX6_whyOff 54 = .ok (.iconst 0, 1) := by decide +kernel
theorem dX6_whyOff_55 : decode cX6_whyOff 55 = .ok (.invokestatic 73, 3) := by decide +kernel
theorem dX6_whyOff_58 : decode cX6_whyOff 58 = .ok (.aload_n 0, 1) := by decide +kernel
theorem dX6_whyOff_59 : decode cX6_whyOff 59 = .ok (.getfield 19, 3) := by decide +kernel
theorem dX6_whyOff_62 : decode cX6_whyOff 62 = .ok (.bipush 10, 2) := by decide +kernel
theorem dX6_whyOff_64 : decode cX6_whyOff 64 = .ok (.iaload, 1) := by decide +kernel
theorem dX6_whyOff_65 : decode cX6_whyOff 65 = .ok (.if_icmp .lt 7, 3) := by decide +kernel
theorem dX6_whyOff_68 : decode cX6_whyOff 68 = .ok (.iconst 2, 1) := by decide +kernel
theorem dX6_whyOff_69 : decode cX6_whyOff 69 = .ok (.goto 18, 3) := by decide +kernel
theorem dX6_whyOff_72 : decode cX6_whyOff 72 = .ok (.aload_n 0, 1) := by decide +kernel
theorem dX6_whyOff_73 : decode cX6_whyOff 73 = .ok (.getfield 19, 3) := by decide +kernel
theorem dX6_whyOff_76 : decode cX6_whyOff 76 = .ok (.bipush 9, 2) := by decide +kernel
theorem dX6_whyOff_78 : decode cX6_whyOff 78 = .ok (.iaload, 1) := by decide +kernel
theorem dX6_whyOff_79 : decode cX6_whyOff 79 = .ok (.ifCond .ne 7, 3) := by decide +kernel
theorem dX6_whyOff_82 : decode cX6_whyOff 82 = .ok (.iconst 3, 1) := by decide +kernel
theorem dX6_whyOff_83 : decode cX6_whyOff 83 = .ok (.goto 4, 3) := by decide +kernel
theorem dX6_whyOff_86 : decode cX6_whyOff 86 = .ok (.iconst 4, 1) := by decide +kernel
theorem dX6_whyOff_87 : decode cX6_whyOff 87 = .ok (.ireturn, 1) := by decide +kernel
theorem dX6_whyShare_0 : decode cX6_whyShare 0 = .ok (.aload_n 0, 1) := by decide +kernel
theorem dX6_whyShare_1 : decode cX6_whyShare 1 = .ok (.iconst 0, 1) := by decide +kernel
theorem dX6_whyShare_2 : decode cX6_whyShare 2 = .ok (.putfield 36, 3) := by decide +kernel
theorem dX6_whyShare_5 : decode cX6_whyShare 5 = .ok (.aload_n 0, 1) := by decide +kernel
theorem dX6_whyShare_6 : decode cX6_whyShare 6 = .ok (.invokevirtual 220, 3) := by decide +kernel
theorem dX6_whyShare_9 : decode cX6_whyShare 9 = .ok (.aload_n 0, 1) := by decide +kernel
theorem dX6_whyShare_10 : decode cX6_whyShare 10 = .ok (.getfield 19, 3) := by decide +kernel
theorem dX6_whyShare_13 : decode cX6_whyShare 13 = .ok (.invokestatic 91, 3) := by decide +kernel
theorem dX6_whyShare_16 : decode cX6_whyShare 16 = .ok (.aload_n 0, 1) := by decide +kernel
theorem dX6_whyShare_17 : decode cX6_whyShare 17 = .ok (.getfield 19, 3) := by decide +kernel
theorem dX6_whyShare_20 : decode cX6_whyShare 20 = .ok (.invokestatic 94, 3) := by decide +kernel
theorem dX6_whyShare_23 : decode cX6_whyShare 23 = .ok (.aload_n 0, 1) := by decide +kernel
theorem dX6_whyShare_24 : decode cX6_whyShare 24 = .ok (.getfield 19, 3) := by decide +kernel
theorem dX6_whyShare_27 : decode cX6_whyShare 27 = .ok (.invokestatic 84, 3) := by decide +kernel
theorem dX6_whyShare_30 : decode cX6_whyShare 30 = .ok (.istore_n 1, 1) := by decide +kernel
theorem dX6_whyShare_31 : decode cX6_whyShare 31 = .ok (.aload_n 0, 1) := by decide +kernel
theorem dX6_whyShare_32 : decode cX6_whyShare 32 = .ok (.getfield 19, 3) := by decide +kernel
theorem dX6_whyShare_35 : decode cX6_whyShare 35 = .ok (.invokestatic 87, 3) := by decide +kernel
theorem dX6_whyShare_38 : decode cX6_whyShare 38 = .ok (.istore_n 2, 1) := by decide +kernel
theorem dX6_whyShare_39 : decode cX6_whyShare 39 = .ok (.aload_n 0, 1) := by decide +kernel
theorem dX6_whyShare_40 : decode cX6_whyShare 40 = .ok (.getfield 19, 3) := by decide +kernel
theorem dX6_whyShare_43 : decode cX6_whyShare 43 = .ok (.invokestatic 97, 3) := by decide +kernel
theorem dX6_whyShare_46 : decode cX6_whyShare 46 = .ok (.aload_n 0, 1) := by decide +kernel
theorem dX6_whyShare_47 : decode cX6_whyShare 47 = .ok (.getfield 19, 3) := by decide +kernel
theorem dX6_whyShare_50 : decode cX6_whyShare 50 = .ok (.iconst 5, 1) := by decide +kernel
theorem dX6_whyShare_51 : decode cX6_whyShare 51 = .ok (.iaload, 1) := by decide +kernel
theorem dX6_whyShare_52 : decode cX6_whyShare 52 = .ok (.bipush 100, 2) := by decide +kernel
theorem dX6_whyShare_54 : decode cX6_whyShare 54 = .ok (.if_icmp .ne 5, 3) := by decide +kernel
theorem dX6_whyShare_57 : decode cX6_whyShare 57 = .ok (.iconst 0, 1) := by decide +kernel
theorem dX6_whyShare_58 : decode cX6_whyShare 58 = .ok (.ireturn, 1) := by decide +kernel
theorem dX6_whyShare_59 : decode cX6_whyShare 59 = .ok (.aload_n 0, 1) := by decide +kernel
theorem dX6_whyShare_60 : decode cX6_whyShare 60 = .ok (.getfield 19, 3) := by decide +kernel
theorem dX6_whyShare_63 : decode cX6_whyShare 63 = .ok (.bipush 6, 2) := by decide +kernel
theorem dX6_whyShare_65 : decode cX6_whyShare 65 = .ok (.iaload, 1) := by decide +kernel
theorem dX6_whyShare_66 : decode cX6_whyShare 66 = .ok (.iconst 1, 1) := by decide +kernel
theorem dX6_whyShare_67 : decode cX6_whyShare 67 = .ok (.if_icmp .ne 7, 3) := by decide +kernel
theorem dX6_whyShare_70 : decode cX6_whyShare 70 = .ok (.iconst 1, 1) := by decide +kernel
theorem dX6_whyShare_71 : decode cX6_whyShare 71 = .ok (.goto 30, 3) := by decide +kernel
theorem dX6_whyShare_74 : decode cX6_whyShare 74 = .ok (.iload_n 1, 1) := by decide +kernel
theorem dX6_whyShare_75 : decode cX6_whyShare 75 = .ok (.ifCond .ne 7, 3) := by decide +kernel
theorem dX6_whyShare_78 : decode cX6_whyShare 78 = .ok (.iconst 2, 1) := by decide +kernel
theorem dX6_whyShare_79 : decode cX6_whyShare 79 = .ok (.goto 22, 3) := by decide +kernel
theorem dX6_whyShare_82 : decode cX6_whyShare 82 = .ok (.iload_n 2, 1) := by decide +kernel
theorem dX6_whyShare_83 : decode cX6_whyShare 83 = .ok (.ifCond .eq 7, 3) := by decide +kernel
theorem dX6_whyShare_86 : decode cX6_whyShare 86 = .ok (.iconst 3, 1) := by decide +kernel
theorem dX6_whyShare_87 : decode cX6_whyShare 87 = .ok (.goto 14, 3) := by decide +kernel
theorem dX6_whyShare_90 : decode cX6_whyShare 90 = .ok (.iload_n 1, 1) := by decide +kernel
theorem dX6_whyShare_91 : decode cX6_whyShare 91 = .ok (.bipush 100, 2) := by decide +kernel
theorem dX6_whyShare_93 : decode cX6_whyShare 93 = .ok (.if_icmp .ge 7, 3) := by decide +kernel
theorem dX6_whyShare_96 : decode cX6_whyShare 96 = .ok (.iconst 4, 1) := by decide +kernel
theorem dX6_whyShare_97 : decode cX6_whyShare 97 = .ok (.goto 4, 3) := by decide +kernel
theorem dX6_whyShare_100 : decode cX6_whyShare 100 = .ok (.iconst 5, 1) := by decide +kernel
theorem dX6_whyShare_101 : decode cX6_whyShare 101 = .ok (.ireturn, 1) := by decide +kernel
theorem dX6_bestSlope_0 : decode cX6_bestSlope 0 = .ok (.aload_n 0, 1) := by decide +kernel
theorem dX6_bestSlope_1 : decode cX6_bestSlope 1 = .ok (.iload_n 1, 1) := by decide +kernel
theorem dX6_bestSlope_2 : decode cX6_bestSlope 2 = .ok (.i2l, 1) := by decide +kernel
theorem dX6_bestSlope_3 : decode cX6_bestSlope 3 = .ok (.lconst 1, 1) := by decide +kernel
theorem dX6_bestSlope_4 : decode cX6_bestSlope 4 = .ok (.ldc2_w 215, 3) := by decide +kernel
theorem dX6_bestSlope_7 : decode cX6_bestSlope 7 = .ok (.invokestatic 49, 3) := by decide +kernel
theorem dX6_bestSlope_10 : decode cX6_bestSlope 10 = .ok (.ifCond .eq 7, 3) := by decide +kernel
theorem dX6_bestSlope_13 : decode cX6_bestSlope 13 = .ok (.iconst 0, 1) := by decide +kernel
theorem dX6_bestSlope_14 : decode cX6_bestSlope 14 = .ok (.goto 4, 3) := by decide +kernel
theorem dX6_bestSlope_17 : decode cX6_bestSlope 17 = .ok (.iconst 1, 1) := by decide +kernel
theorem dX6_bestSlope_18 : decode cX6_bestSlope 18 = .ok (.invokevirtual 121, 3) := by decide +kernel
theorem dX6_bestSlope_21 : decode cX6_bestSlope 21 = .ok (.ifCond .eq 5, 3) := by decide +kernel
theorem dX6_bestSlope_24 : decode cX6_bestSlope 24 = .ok (.iconst 0, 1) := by decide +kernel
theorem dX6_bestSlope_25 : decode cX6_bestSlope 25 = .ok (.ireturn, 1) := by decide +kernel
theorem dX6_bestSlope_26 : decode cX6_bestSlope 26 = .ok (.ldc 64, 2) := by decide +kernel
theorem dX6_bestSlope_28 : decode cX6_bestSlope 28 = .ok (.istore_n 2, 1) := by decide +kernel
theorem dX6_bestSlope_29 : decode cX6_bestSlope 29 = .ok (.iconst 0, 1) := by decide +kernel
theorem dX6_bestSlope_30 : decode cX6_bestSlope 30 = .ok (.istore_n 3, 1) := by decide +kernel
theorem dX6_bestSlope_31 : decode cX6_bestSlope 31 = .ok (.iconst 0, 1) := by decide +kernel
theorem dX6_bestSlope_32 : decode cX6_bestSlope 32 = .ok (.istore 4, 2) := by decide +kernel
theorem dX6_bestSlope_34 : decode cX6_bestSlope 34 = .ok (.iload 4, 2) := by decide +kernel
theorem dX6_bestSlope_36 : decode cX6_bestSlope 36 = .ok (.bipush 30, 2) := by decide +kernel
theorem dX6_bestSlope_38 : decode cX6_bestSlope 38 = .ok (.if_icmp .gt 59, 3) := by decide +kernel
theorem dX6_bestSlope_41 : decode cX6_bestSlope 41 = .ok (.aload_n 0, 1) := by decide +kernel
theorem dX6_bestSlope_42 : decode cX6_bestSlope 42 = .ok (.getfield 16, 3) := by decide +kernel
theorem dX6_bestSlope_45 : decode cX6_bestSlope 45 = .ok (.iconst 0, 1) := by decide +kernel
theorem dX6_bestSlope_46 : decode cX6_bestSlope 46 = .ok (.iaload, 1) := by decide +kernel
theorem dX6_bestSlope_47 : decode cX6_bestSlope 47 = .ok (.ifCond .le 50, 3) := by decide +kernel
theorem dX6_bestSlope_50 : decode cX6_bestSlope 50 = .ok (.aload_n 0, 1) := by decide +kernel
theorem dX6_bestSlope_51 : decode cX6_bestSlope 51 = .ok (.invokevirtual 220, 3) := by decide +kernel
theorem dX6_bestSlope_54 : decode cX6_bestSlope 54 = .ok (.aload_n 0, 1) := by decide +kernel
theorem dX6_bestSlope_55 : decode cX6_bestSlope 55 = .ok (.getfield 19, 3) := by decide +kernel
theorem dX6_bestSlope_58 : decode cX6_bestSlope 58 = .ok (.bipush 13, 2) := by decide +kernel
theorem dX6_bestSlope_60 : decode cX6_bestSlope 60 = .ok (.iload 4, 2) := by decide +kernel
theorem dX6_bestSlope_62 : decode cX6_bestSlope 62 = .ok (.iastore, 1) := by decide +kernel
theorem dX6_bestSlope_63 : decode cX6_bestSlope 63 = .ok (.aload_n 0, 1) := by decide +kernel
theorem dX6_bestSlope_64 : decode cX6_bestSlope 64 = .ok (.getfield 19, 3) := by decide +kernel
theorem dX6_bestSlope_67 : decode cX6_bestSlope 67 = .ok (.iload_n 1, 1) := by decide +kernel
theorem dX6_bestSlope_68 : decode cX6_bestSlope 68 = .ok (.invokestatic 212, 3) := by decide +kernel
theorem dX6_bestSlope_71 : decode cX6_bestSlope 71 = .ok (.istore 5, 2) := by decide +kernel
theorem dX6_bestSlope_73 : decode cX6_bestSlope 73 = .ok (.iload_n 2, 1) := by decide +kernel
theorem dX6_bestSlope_74 : decode cX6_bestSlope 74 = .ok (.ldc 64, 2) := by decide +kernel
theorem dX6_bestSlope_76 : decode cX6_bestSlope 76 = .ok (.if_icmp .eq 9, 3) := by decide +kernel
theorem dX6_bestSlope_79 : decode cX6_bestSlope 79 = .ok (.iload 5, 2) := by decide +kernel
theorem dX6_bestSlope_81 : decode cX6_bestSlope 81 = .ok (.iload_n 3, 1) := by decide +kernel
theorem dX6_bestSlope_82 : decode cX6_bestSlope 82 = .ok (.if_icmp .le 9, 3) := by decide +kernel
theorem dX6_bestSlope_85 : decode cX6_bestSlope 85 = .ok (.iload 4, 2) := by decide +kernel
theorem dX6_bestSlope_87 : decode cX6_bestSlope 87 = .ok (.istore_n 2, 1) := by decide +kernel
theorem dX6_bestSlope_88 : decode cX6_bestSlope 88 = .ok (.iload 5, 2) := by decide +kernel
theorem dX6_bestSlope_90 : decode cX6_bestSlope 90 = .ok (.istore_n 3, 1) := by decide +kernel
theorem dX6_bestSlope_91 : decode cX6_bestSlope 91 = .ok (.iinc 4 1, 3) := by decide +kernel
theorem dX6_bestSlope_94 : decode cX6_bestSlope 94 = .ok (.goto (-60), 3) := by decide +kernel
theorem dX6_bestSlope_97 : decode cX6_bestSlope 97 = .ok (.iload_n 2, 1) := by decide +kernel
theorem dX6_bestSlope_98 : decode cX6_bestSlope 98 = .ok (.ireturn, 1) := by decide +kernel
theorem dX6_allReach_0 : decode cX6_allReach 0 = .ok (.iconst 1, 1) := by decide +kernel
theorem dX6_allReach_1 : decode cX6_allReach 1 = .ok (.aload_n 0, 1) := by decide +kernel
theorem dX6_allReach_2 : decode cX6_allReach 2 = .ok (.getfield 19, 3) := by decide +kernel
theorem dX6_allReach_5 : decode cX6_allReach 5 = .ok (.iconst 0, 1) := by decide +kernel
theorem dX6_allReach_6 : decode cX6_allReach 6 = .ok (.iaload, 1) := by decide +kernel
theorem dX6_allReach_7 : decode cX6_allReach 7 = .ok (.ishl, 1) := by decide +kernel
theorem dX6_allReach_8 : decode cX6_allReach 8 = .ok (.iconst 1, 1) := by decide +kernel
theorem dX6_allReach_9 : decode cX6_allReach 9 = .ok (.isub, 1) := by decide +kernel
theorem dX6_allReach_10 : decode cX6_allReach 10 = .ok (.istore_n 2, 1) := by decide +kernel
theorem dX6_allReach_11 : decode cX6_allReach 11 = .ok (.iconst 0, 1) := by decide +kernel
theorem dX6_allReach_12 : decode cX6_allReach 12 = .ok (.istore_n 3, 1) := by decide +kernel
theorem dX6_allReach_13 : decode cX6_allReach 13 = .ok (.iload_n 3, 1) := by decide +kernel
theorem dX6_allReach_14 : decode cX6_allReach 14 = .ok (.iload_n 1, 1) := by decide +kernel
theorem dX6_allReach_15 : decode cX6_allReach 15 = .ok (.if_icmp .gt 85, 3) := by decide +kernel
theorem dX6_allReach_18 : decode cX6_allReach 18 = .ok (.iload_n 3, 1) := by decide +kernel
theorem dX6_allReach_19 : decode cX6_allReach 19 = .ok (.ifCond .le 11, 3) := by decide +kernel
theorem dX6_allReach_22 : decode cX6_allReach 22 = .ok (.aload_n 0, 1) := by decide +kernel
theorem dX6_allReach_23 : decode cX6_allReach 23 = .ok (.getfield 19, 3) := by decide +kernel
theorem dX6_allReach_26 : decode cX6_allReach 26 = .ok (.invokestatic 113, 3) := by decide +kernel
theorem dX6_allReach_29 : decode cX6_allReach 29 = .ok (.pop, 1) := by decide +kernel
theorem dX6_allReach_30 : decode cX6_allReach 30 = .ok (.iconst 0, 1) := by decide +kernel
theorem dX6_allReach_31 : decode cX6_allReach 31 = .ok (.istore 4, 2) := by decide +kernel
theorem dX6_allReach_33 : decode cX6_allReach 33 = .ok (.iload 4, 2) := by decide +kernel
theorem dX6_allReach_35 : decode cX6_allReach 35 = .ok (.aload_n 0, 1) := by decide +kernel
theorem dX6_allReach_36 : decode cX6_allReach 36 = .ok (.getfield 19, 3) := by decide +kernel
theorem dX6_allReach_39 : decode cX6_allReach 39 = .ok (.iconst 0, 1) := by decide +kernel
theorem dX6_allReach_40 : decode cX6_allReach 40 = .ok (.iaload, 1) := by decide +kernel
theorem dX6_allReach_41 : decode cX6_allReach 41 = .ok (.if_icmp .ge 47, 3) := by decide +kernel
theorem dX6_allReach_44 : decode cX6_allReach 44 = .ok (.iload_n 2, 1) := by decide +kernel
theorem dX6_allReach_45 : decode cX6_allReach 45 = .ok (.aload_n 0, 1) := by decide +kernel
theorem dX6_allReach_46 : decode cX6_allReach 46 = .ok (.getfield 19, 3) := by decide +kernel
theorem dX6_allReach_49 : decode cX6_allReach 49 = .ok (.iconst 2, 1) := by decide +kernel
theorem dX6_allReach_50 : decode cX6_allReach 50 = .ok (.iload 4, 2) := by decide +kernel
theorem dX6_allReach_52 : decode cX6_allReach 52 = .ok (.iadd, 1) := by decide +kernel
theorem dX6_allReach_53 : decode cX6_allReach 53 = .ok (.invokestatic 73, 3) := by decide +kernel
theorem dX6_allReach_56 : decode cX6_allReach 56 = .ok (.aload_n 0, 1) := by decide +kernel
theorem dX6_allReach_57 : decode cX6_allReach 57 = .ok (.getfield 19, 3) := by decide +kernel
theorem dX6_allReach_60 : decode cX6_allReach 60 = .ok (.iload 4, 2) := by decide +kernel
theorem dX6_allReach_62 : decode cX6_allReach 62 = .ok (.iconst 1, 1) := by decide +kernel
theorem dX6_allReach_63 : decode cX6_allReach 63 = .ok (.invokestatic 53, 3) := by decide +kernel
theorem dX6_allReach_66 : decode cX6_allReach 66 = .ok (.iaload, 1) := by decide +kernel
theorem dX6_allReach_67 : decode cX6_allReach 67 = .ok (.if_icmp .lt 12, 3) := by decide +kernel
theorem dX6_allReach_70 : decode cX6_allReach 70 = .ok (.iconst 1, 1) := by decide +kernel
theorem dX6_allReach_71 : decode cX6_allReach 71 = .ok (.iload 4, 2) := by decide +kernel
theorem dX6_allReach_73 : decode cX6_allReach 73 = .ok (.ishl, 1) := by decide +kernel
theorem dX6_allReach_74 : decode cX6_allReach 74 = .ok (.iconst (-1), 1) := by decide +kernel
theorem dX6_allReach_75 : decode cX6_allReach 75 = .ok (.ixor, 1) := by decide +kernel
theorem dX6_allReach_76 : decode cX6_allReach 76 = .ok (.goto 4, 3) := by decide +kernel
theorem dX6_allReach_79 : decode cX6_allReach 79 = .ok (.iconst (-1), 1) := by decide +kernel
theorem dX6_allReach_80 : decode cX6_allReach 80 = .ok (.iand, 1) := by decide +kernel
theorem dX6_allReach_81 : decode cX6_allReach 81 = .ok (.istore_n 2, 1) := by decide +kernel
theorem dX6_allReach_82 : decode cX6_allReach 82 = .ok (.iinc 4 1, 3) := by decide +kernel
theorem dX6_allReach_85 : decode cX6_allReach 85 = .ok (.goto (-52), 3) := by decide +kernel
theorem dX6_allReach_88 : decode cX6_allReach 88 = .ok (.iload_n 2, 1) := by decide +kernel
theorem dX6_allReach_89 : decode cX6_allReach 89 = .ok (.ifCond .ne 5, 3) := by decide +kernel
theorem dX6_allReach_92 : decode cX6_allReach 92 = .ok (.iconst 1, 1) := by decide +kernel
theorem dX6_allReach_93 : decode cX6_allReach 93 = .ok (.ireturn, 1) := by decide +kernel
theorem dX6_allReach_94 : decode cX6_allReach 94 = .ok (.iinc 3 1, 3) := by decide +kernel
theorem dX6_allReach_97 : decode cX6_allReach 97 = .ok (.goto (-84), 3) := by decide +kernel
theorem dX6_allReach_100 : decode cX6_allReach 100 = .ok (.iconst 0, 1) := by decide +kernel
theorem dX6_allReach_101 : decode cX6_allReach 101 = .ok (.ireturn, 1) := by decide +kernel
theorem dX6_leastPower_0 : decode cX6_leastPower 0 = .ok (.aload_n 0, 1) := by decide +kernel
theorem dX6_leastPower_1 : decode cX6_leastPower 1 = .ok (.iload_n 1, 1) := by decide +kernel
theorem dX6_leastPower_2 : decode cX6_leastPower 2 = .ok (.invokestatic 217, 3) := by decide +kernel
theorem dX6_leastPower_5 : decode cX6_leastPower 5 = .ok (.ifCond .eq 7, 3) := by decide +kernel
theorem dX6_leastPower_8 : decode cX6_leastPower 8 = .ok (.iconst 0, 1) := by decide +kernel
theorem dX6_leastPower_9 : decode cX6_leastPower 9 = .ok (.goto 4, 3) := by decide +kernel
theorem dX6_leastPower_12 : decode cX6_leastPower 12 = .ok (.iconst 1, 1) := by decide +kernel
theorem dX6_leastPower_13 : decode cX6_leastPower 13 = .ok (.invokevirtual 121, 3) := by decide +kernel
theorem dX6_leastPower_16 : decode cX6_leastPower 16 = .ok (.ifCond .eq 5, 3) := by decide +kernel
theorem dX6_leastPower_19 : decode cX6_leastPower 19 = .ok (.iconst 0, 1) := by decide +kernel
theorem dX6_leastPower_20 : decode cX6_leastPower 20 = .ok (.ireturn, 1) := by decide +kernel
theorem dX6_leastPower_21 : decode cX6_leastPower 21 = .ok (.iconst 0, 1) := by decide +kernel
theorem dX6_leastPower_22 : decode cX6_leastPower 22 = .ok (.istore_n 2, 1) := by decide +kernel
theorem dX6_leastPower_23 : decode cX6_leastPower 23 = .ok (.iload_n 2, 1) := by decide +kernel
theorem dX6_leastPower_24 : decode cX6_leastPower 24 = .ok (.sipush 200, 3) := by decide +kernel
theorem dX6_leastPower_27 : decode cX6_leastPower 27 = .ok (.if_icmp .gt 31, 3) := by decide +kernel
theorem dX6_leastPower_30 : decode cX6_leastPower 30 = .ok (.aload_n 0, 1) := by decide +kernel
theorem dX6_leastPower_31 : decode cX6_leastPower 31 = .ok (.invokevirtual 220, 3) := by decide +kernel
theorem dX6_leastPower_34 : decode cX6_leastPower 34 = .ok (.aload_n 0, 1) := by decide +kernel
theorem dX6_leastPower_35 : decode cX6_leastPower 35 = .ok (.getfield 19, 3) := by decide +kernel
theorem dX6_leastPower_38 : decode cX6_leastPower 38 = .ok (.bipush 9, 2) := by decide +kernel
theorem dX6_leastPower_40 : decode cX6_leastPower 40 = .ok (.iload_n 2, 1) := by decide +kernel
theorem dX6_leastPower_41 : decode cX6_leastPower 41 = .ok (.iastore, 1) := by decide +kernel
theorem dX6_leastPower_42 : decode cX6_leastPower 42 = .ok (.aload_n 0, 1) := by decide +kernel
theorem dX6_leastPower_43 : decode cX6_leastPower 43 = .ok (.iload_n 1, 1) := by decide +kernel
theorem dX6_leastPower_44 : decode cX6_leastPower 44 = .ok (.invokevirtual 223, 3) := by decide +kernel
theorem dX6_leastPower_47 : decode cX6_leastPower 47 = .ok (.ifCond .eq 5, 3) := by decide +kernel
theorem dX6_leastPower_50 : decode cX6_leastPower 50 = .ok (.iload_n 2, 1) := by decide +kernel
theorem dX6_leastPower_51 : decode cX6_leastPower 51 = .ok (.ireturn, 1) := by decide +kernel
theorem dX6_leastPower_52 : decode cX6_leastPower 52 = .ok (.iinc 2 10, 3) := by decide +kernel
theorem dX6_leastPower_55 : decode cX6_leastPower 55 = .ok (.goto (-32), 3) := by decide +kernel
theorem dX6_leastPower_58 : decode cX6_leastPower 58 = .ok (.ldc 64, 2) := by decide +kernel
theorem dX6_leastPower_60 : decode cX6_leastPower 60 = .ok (.ireturn, 1) := by decide +kernel
theorem dX6_heatFor_0 : decode cX6_heatFor 0 = .ok (.aload_n 0, 1) := by decide +kernel
theorem dX6_heatFor_1 : decode cX6_heatFor 1 = .ok (.iload_n 1, 1) := by decide +kernel
theorem dX6_heatFor_2 : decode cX6_heatFor 2 = .ok (.invokestatic 217, 3) := by decide +kernel
theorem dX6_heatFor_5 : decode cX6_heatFor 5 = .ok (.ifCond .eq 7, 3) := by decide +kernel
theorem dX6_heatFor_8 : decode cX6_heatFor 8 = .ok (.iconst 0, 1) := by decide +kernel
theorem dX6_heatFor_9 : decode cX6_heatFor 9 = .ok (.goto 4, 3) := by decide +kernel
theorem dX6_heatFor_12 : decode cX6_heatFor 12 = .ok (.iconst 1, 1) := by decide +kernel
theorem dX6_heatFor_13 : decode cX6_heatFor 13 = .ok (.invokevirtual 121, 3) := by decide +kernel
theorem dX6_heatFor_16 : decode cX6_heatFor 16 = .ok (.ifCond .eq 5, 3) := by decide +kernel
theorem dX6_heatFor_19 : decode cX6_heatFor 19 = .ok (.iconst 0, 1) := by decide +kernel
theorem dX6_heatFor_20 : decode cX6_heatFor 20 = .ok (.ireturn, 1) := by decide +kernel
theorem dX6_heatFor_21 : decode cX6_heatFor 21 = .ok (.aload_n 0, 1) := by decide +kernel
theorem dX6_heatFor_22 : decode cX6_heatFor 22 = .ok (.invokevirtual 220, 3) := by decide +kernel
theorem dX6_heatFor_25 : decode cX6_heatFor 25 = .ok (.aload_n 0, 1) := by decide +kernel
theorem dX6_heatFor_26 : decode cX6_heatFor 26 = .ok (.getfield 19, 3) := by decide +kernel
theorem dX6_heatFor_29 : decode cX6_heatFor 29 = .ok (.iload_n 1, 1) := by decide +kernel
theorem dX6_heatFor_30 : decode cX6_heatFor 30 = .ok (.invokestatic 212, 3) := by decide +kernel
theorem dX6_heatFor_33 : decode cX6_heatFor 33 = .ok (.pop, 1) := by decide +kernel
theorem dX6_heatFor_34 : decode cX6_heatFor 34 = .ok (.aload_n 0, 1) := by decide +kernel
theorem dX6_heatFor_35 : decode cX6_heatFor 35 = .ok (.getfield 19, 3) := by decide +kernel
theorem dX6_heatFor_38 : decode cX6_heatFor 38 = .ok (.bipush 9, 2) := by decide +kernel
theorem dX6_heatFor_40 : decode cX6_heatFor 40 = .ok (.iconst 0, 1) := by decide +kernel
theorem dX6_heatFor_41 : decode cX6_heatFor 41 = .ok (.invokestatic 191, 3) := by decide +kernel
theorem dX6_heatFor_44 : decode cX6_heatFor 44 = .ok (.aload_n 0, 1) := by decide +kernel
theorem dX6_heatFor_45 : decode cX6_heatFor 45 = .ok (.getfield 16, 3) := by decide +kernel
theorem dX6_heatFor_48 : decode cX6_heatFor 48 = .ok (.bipush 9, 2) := by decide +kernel
theorem dX6_heatFor_50 : decode cX6_heatFor 50 = .ok (.iconst 0, 1) := by decide +kernel
theorem dX6_heatFor_51 : decode cX6_heatFor 51 = .ok (.invokestatic 191, 3) := by decide +kernel
theorem dX6_heatFor_54 : decode cX6_heatFor 54 = .ok (.isub, 1) := by decide +kernel
theorem dX6_heatFor_55 : decode cX6_heatFor 55 = .ok (.ireturn, 1) := by decide +kernel
theorem dX6_does_0 : decode cX6_does 0 = .ok (.iload_n 1, 1) := by decide +kernel
theorem dX6_does_1 : decode cX6_does 1 = .ok (.sipush 1000, 3) := by decide +kernel
theorem dX6_does_4 : decode cX6_does 4 = .ok (.idiv, 1) := by decide +kernel
theorem dX6_does_5 : decode cX6_does 5 = .ok (.istore_n 2, 1) := by decide +kernel
theorem dX6_does_6 : decode cX6_does 6 = .ok (.iload_n 1, 1) := by decide +kernel
theorem dX6_does_7 : decode cX6_does 7 = .ok (.bipush 100, 2) := by decide +kernel
theorem dX6_does_9 : decode cX6_does 9 = .ok (.idiv, 1) := by decide +kernel
theorem dX6_does_10 : decode cX6_does 10 = .ok (.bipush 10, 2) := by decide +kernel
theorem dX6_does_12 : decode cX6_does 12 = .ok (.irem, 1) := by decide +kernel
theorem dX6_does_13 : decode cX6_does 13 = .ok (.istore_n 3, 1) := by decide +kernel
theorem dX6_does_14 : decode cX6_does 14 = .ok (.iload_n 1, 1) := by decide +kernel
theorem dX6_does_15 : decode cX6_does 15 = .ok (.bipush 10, 2) := by decide +kernel
theorem dX6_does_17 : decode cX6_does 17 = .ok (.idiv, 1) := by decide +kernel
theorem dX6_does_18 : decode cX6_does 18 = .ok (.bipush 10, 2) := by decide +kernel
theorem dX6_does_20 : decode cX6_does 20 = .ok (.irem, 1) := by decide +kernel
theorem dX6_does_21 : decode cX6_does 21 = .ok (.istore 4, 2) := by decide +kernel
theorem dX6_does_23 : decode cX6_does 23 = .ok (.iload_n 1, 1) := by decide +kernel
theorem dX6_does_24 : decode cX6_does 24 = .ok (.bipush 10, 2) := by decide +kernel
theorem dX6_does_26 : decode cX6_does 26 = .ok (.irem, 1) := by decide +kernel
theorem dX6_does_27 : decode cX6_does 27 = .ok (.istore 5, 2) := by decide +kernel
theorem dX6_does_29 : decode cX6_does 29 = .ok (.bipush 10, 2) := by decide +kernel
theorem dX6_does_31 : decode cX6_does 31 = .ok (.iload 4, 2) := by decide +kernel
theorem dX6_does_33 : decode cX6_does 33 = .ok (.imul, 1) := by decide +kernel
theorem dX6_does_34 : decode cX6_does 34 = .ok (.iload 5, 2) := by decide +kernel
theorem dX6_does_36 : decode cX6_does 36 = .ok (.iadd, 1) := by decide +kernel
theorem dX6_does_37 : decode cX6_does 37 = .ok (.istore 6, 2) := by decide +kernel
theorem dX6_does_39 : decode cX6_does 39 = .ok (.iload_n 2, 1) := by decide +kernel
theorem dX6_does_40 : decode cX6_does 40 = .ok (.tableswitch 337 1 9 #[52, 83, 130, 154, 189, 228, 255, 276, 305], 52) := by decide +kernel
theorem dX6_does_92 : decode cX6_does 92 = .ok (.iload_n 3, 1) := by decide +kernel
theorem dX6_does_93 : decode cX6_does 93 = .ok (.ifCond .ne 16, 3) := by decide +kernel
theorem dX6_does_96 : decode cX6_does 96 = .ok (.iload 6, 2) := by decide +kernel
theorem dX6_does_98 : decode cX6_does 98 = .ok (.i2l, 1) := by decide +kernel
theorem dX6_does_99 : decode cX6_does 99 = .ok (.lconst 1, 1) := by decide +kernel
theorem dX6_does_100 : decode cX6_does 100 = .ok (.ldc2_w 210, 3) := by decide +kernel
theorem dX6_does_103 : decode cX6_does 103 = .ok (.invokestatic 49, 3) := by decide +kernel
theorem dX6_does_106 : decode cX6_does 106 = .ok (.ifCond .ne 5, 3) := by decide +kernel
theorem dX6_does_109 : decode cX6_does 109 = .ok (.iconst 0, 1) := by decide +kernel
theorem dX6_does_110 : decode cX6_does 110 = .ok (.ireturn, 1) := by decide +kernel
theorem dX6_does_111 : decode cX6_does 111 = .ok (.aload_n 0, 1) := by decide +kernel
theorem dX6_does_112 : decode cX6_does 112 = .ok (.getfield 19, 3) := by decide +kernel
theorem dX6_does_115 : decode cX6_does 115 = .ok (.iload 6, 2) := by decide +kernel
theorem dX6_does_117 : decode cX6_does 117 = .ok (.invokestatic 212, 3) := by decide +kernel
theorem dX6_does_120 : decode cX6_does 120 = .ok (.pop, 1) := by decide +kernel
theorem dX6_does_121 : decode cX6_does 121 = .ok (.iconst 1, 1) := by decide +kernel
theorem dX6_does_122 : decode cX6_does 122 = .ok (.ireturn, 1) := by decide +kernel
theorem dX6_does_123 : decode cX6_does 123 = .ok (.iload_n 3, 1) := by decide +kernel
theorem dX6_does_124 : decode cX6_does 124 = .ok (.iconst 1, 1) := by decide +kernel
theorem dX6_does_125 : decode cX6_does 125 = .ok (.if_icmp .gt 22, 3) := by decide +kernel
theorem dX6_does_128 : decode cX6_does 128 = .ok (.iload_n 3, 1) := by decide +kernel
theorem dX6_does_129 : decode cX6_does 129 = .ok (.iconst 1, 1) := by decide +kernel
theorem dX6_does_130 : decode cX6_does 130 = .ok (.if_icmp .ne 9, 3) := by decide +kernel
theorem dX6_does_133 : decode cX6_does 133 = .ok (.iload 6, 2) := by decide +kernel
theorem dX6_does_135 : decode cX6_does 135 = .ok (.ineg, 1) := by decide +kernel
theorem dX6_does_136 : decode cX6_does 136 = .ok (.goto 5, 3) := by decide +kernel
theorem dX6_does_139 : decode cX6_does 139 = .ok (.iload 6, 2) := by decide +kernel
theorem dX6_does_141 : decode cX6_does 141 = .ok (.invokestatic 207, 3) := by decide +kernel
theorem dX6_does_144 : decode cX6_does 144 = .ok (.ifCond .ne 5, 3) := by decide +kernel
theorem dX6_does_147 : decode cX6_does 147 = .ok (.iconst 0, 1) := by decide +kernel
theorem dX6_does_148 : decode cX6_does 148 = .ok (.ireturn, 1) := by decide +kernel
theorem dX6_does_149 : decode cX6_does 149 = .ok (.aload_n 0, 1) := by decide +kernel
theorem dX6_does_150 : decode cX6_does 150 = .ok (.getfield 19, 3) := by decide +kernel
theorem dX6_does_153 : decode cX6_does 153 = .ok (.iconst 2, 1) := by decide +kernel
theorem dX6_does_154 : decode cX6_does 154 = .ok (.iload_n 3, 1) := by decide +kernel
theorem dX6_does_155 : decode cX6_does 155 = .ok (.iconst 1, 1) := by decide +kernel
theorem dX6_does_156 : decode cX6_does 156 = .ok (.if_icmp .ne 9, 3) := by decide +kernel
theorem dX6_does_159 : decode cX6_does 159 = .ok (.iload 6, 2) := by decide +kernel
theorem dX6_does_161 : decode cX6_does 161 = .ok (.ineg, 1) := by decide +kernel
theorem dX6_does_162 : decode cX6_does 162 = .ok (.goto 5, 3) := by decide +kernel
theorem dX6_does_165 : decode cX6_does 165 = .ok (.iload 6, 2) := by decide +kernel
theorem dX6_does_167 : decode cX6_does 167 = .ok (.iastore, 1) := by decide +kernel
theorem dX6_does_168 : decode cX6_does 168 = .ok (.iconst 1, 1) := by decide +kernel
theorem dX6_does_169 : decode cX6_does 169 = .ok (.ireturn, 1) := by decide +kernel
theorem dX6_does_170 : decode cX6_does 170 = .ok (.iload_n 3, 1) := by decide +kernel
theorem dX6_does_171 : decode cX6_does 171 = .ok (.iload 6, 2) := by decide +kernel
theorem dX6_does_173 : decode cX6_does 173 = .ok (.invokestatic 199, 3) := by decide +kernel
theorem dX6_does_176 : decode cX6_does 176 = .ok (.ifCond .ne 5, 3) := by decide +kernel
theorem dX6_does_179 : decode cX6_does 179 = .ok (.iconst 0, 1) := by decide +kernel
theorem dX6_does_180 : decode cX6_does 180 = .ok (.ireturn, 1) := by decide +kernel
theorem dX6_does_181 : decode cX6_does 181 = .ok (.aload_n 0, 1) := by decide +kernel
theorem dX6_does_182 : decode cX6_does 182 = .ok (.getfield 19, 3) := by decide +kernel
theorem dX6_does_185 : decode cX6_does 185 = .ok (.bipush 9, 2) := by decide +kernel
theorem dX6_does_187 : decode cX6_does 187 = .ok (.iload_n 3, 1) := by decide +kernel
theorem dX6_does_188 : decode cX6_does 188 = .ok (.iadd, 1) := by decide +kernel
theorem dX6_does_189 : decode cX6_does 189 = .ok (.iload 6, 2) := by decide +kernel
theorem dX6_does_191 : decode cX6_does 191 = .ok (.iastore, 1) := by decide +kernel
theorem dX6_does_192 : decode cX6_does 192 = .ok (.iconst 1, 1) := by decide +kernel
theorem dX6_does_193 : decode cX6_does 193 = .ok (.ireturn, 1) := by decide +kernel
theorem dX6_does_194 : decode cX6_does 194 = .ok (.aload_n 0, 1) := by decide +kernel
theorem dX6_does_195 : decode cX6_does 195 = .ok (.iload_n 3, 1) := by decide +kernel
theorem dX6_does_196 : decode cX6_does 196 = .ok (.invokevirtual 186, 3) := by decide +kernel
theorem dX6_does_199 : decode cX6_does 199 = .ok (.ifCond .eq 14, 3) := by decide +kernel
theorem dX6_does_202 : decode cX6_does 202 = .ok (.iload 4, 2) := by decide +kernel
theorem dX6_does_204 : decode cX6_does 204 = .ok (.ifCond .ne 9, 3) := by decide +kernel
theorem dX6_does_207 : decode cX6_does 207 = .ok (.iload 5, 2) := by decide +kernel
theorem dX6_does_209 : decode cX6_does 209 = .ok (.iconst 1, 1) := by decide +kernel
theorem dX6_does_210 : decode cX6_does 210 = .ok (.if_icmp .le 5, 3) := by decide +kernel
theorem dX6_does_213 : decode cX6_does 213 = .ok (.iconst 0, 1) := by decide +kernel
theorem dX6_does_214 : decode cX6_does 214 = .ok (.ireturn, 1) := by decide +kernel
theorem dX6_does_215 : decode cX6_does 215 = .ok (.aload_n 0, 1) := by decide +kernel
theorem dX6_does_216 : decode cX6_does 216 = .ok (.getfield 19, 3) := by decide +kernel
theorem dX6_does_219 : decode cX6_does 219 = .ok (.iload_n 3, 1) := by decide +kernel
theorem dX6_does_220 : decode cX6_does 220 = .ok (.iconst 4, 1) := by decide +kernel
theorem dX6_does_221 : decode cX6_does 221 = .ok (.invokestatic 53, 3) := by decide +kernel
theorem dX6_does_224 : decode cX6_does 224 = .ok (.iload 5, 2) := by decide +kernel
theorem dX6_does_226 : decode cX6_does 226 = .ok (.iastore, 1) := by decide +kernel
theorem dX6_does_227 : decode cX6_does 227 = .ok (.iconst 1, 1) := by decide +kernel
theorem dX6_does_228 : decode cX6_does 228 = .ok (.ireturn, 1) := by decide +kernel
theorem dX6_does_229 : decode cX6_does 229 = .ok (.aload_n 0, 1) := by decide +kernel
theorem dX6_does_230 : decode cX6_does 230 = .ok (.iload_n 3, 1) := by decide +kernel
theorem dX6_does_231 : decode cX6_does 231 = .ok (.invokevirtual 186, 3) := by decide +kernel
theorem dX6_does_234 : decode cX6_does 234 = .ok (.ifCond .eq 18, 3) := by decide +kernel
theorem dX6_does_237 : decode cX6_does 237 = .ok (.iload 6, 2) := by decide +kernel
theorem dX6_does_239 : decode cX6_does 239 = .ok (.i2l, 1) := by decide +kernel
theorem dX6_does_240 : decode cX6_does 240 = .ok (.ldc2_w 40, 3) := by decide +kernel
theorem dX6_does_243 : decode cX6_does 243 = .ok (.ldc2_w 194, 3) := by decide +kernel
theorem dX6_does_246 : decode cX6_does 246 = .ok (.invokestatic 49, 3) := by decide +kernel
theorem dX6_does_249 : decode cX6_does 249 = .ok (.ifCond .ne 5, 3) := by decide +kernel
theorem dX6_does_252 : decode cX6_does 252 = .ok (.iconst 0, 1) := by decide +kernel
theorem dX6_does_253 : decode cX6_does 253 = .ok (.ireturn, 1) := by decide +kernel
theorem dX6_does_254 : decode cX6_does 254 = .ok (.aload_n 0, 1) := by decide +kernel
theorem dX6_does_255 : decode cX6_does 255 = .ok (.getfield 19, 3) := by decide +kernel
theorem dX6_does_258 : decode cX6_does 258 = .ok (.iload_n 3, 1) := by decide +kernel
theorem dX6_does_259 : decode cX6_does 259 = .ok (.iconst 1, 1) := by decide +kernel
theorem dX6_does_260 : decode cX6_does 260 = .ok (.invokestatic 53, 3) := by decide +kernel
theorem dX6_does_263 : decode cX6_does 263 = .ok (.iload 6, 2) := by decide +kernel
theorem dX6_does_265 : decode cX6_does 265 = .ok (.iastore, 1) := by decide +kernel
theorem dX6_does_266 : decode cX6_does 266 = .ok (.iconst 1, 1) := by decide +kernel
theorem dX6_does_267 : decode cX6_does 267 = .ok (.ireturn, 1) := by decide +kernel
theorem dX6_does_268 : decode cX6_does 268 = .ok (.aload_n 0, 1) := by decide +kernel
theorem dX6_does_269 : decode cX6_does 269 = .ok (.iload_n 3, 1) := by decide +kernel
theorem dX6_does_270 : decode cX6_does 270 = .ok (.invokevirtual 181, 3) := by decide +kernel
theorem dX6_does_273 : decode cX6_does 273 = .ok (.ifCond .eq 20, 3) := by decide +kernel
theorem dX6_does_276 : decode cX6_does 276 = .ok (.aload_n 0, 1) := by decide +kernel
theorem dX6_does_277 : decode cX6_does 277 = .ok (.getfield 19, 3) := by decide +kernel
theorem dX6_does_280 : decode cX6_does 280 = .ok (.iload_n 3, 1) := by decide +kernel
theorem dX6_does_281 : decode cX6_does 281 = .ok (.invokestatic 73, 3) := by decide +kernel
theorem dX6_does_284 : decode cX6_does 284 = .ok (.iload 6, 2) := by decide +kernel
theorem dX6_does_286 : decode cX6_does 286 = .ok (.if_icmp .lt 7, 3) := by decide +kernel
theorem dX6_does_289 : decode cX6_does 289 = .ok (.iconst 1, 1) := by decide +kernel
theorem dX6_does_290 : decode cX6_does 290 = .ok (.goto 4, 3) := by decide +kernel
theorem dX6_does_293 : decode cX6_does 293 = .ok (.iconst 0, 1) := by decide +kernel
theorem dX6_does_294 : decode cX6_does 294 = .ok (.ireturn, 1) := by decide +kernel
theorem dX6_does_295 : decode cX6_does 295 = .ok (.iload_n 3, 1) := by decide +kernel
theorem dX6_does_296 : decode cX6_does 296 = .ok (.ifCond .ne 18, 3) := by decide +kernel
theorem dX6_does_299 : decode cX6_does 299 = .ok (.aload_n 0, 1) := by decide +kernel
theorem dX6_does_300 : decode cX6_does 300 = .ok (.getfield 19, 3) := by decide +kernel
theorem dX6_does_303 : decode cX6_does 303 = .ok (.iconst 5, 1) := by decide +kernel
theorem dX6_does_304 : decode cX6_does 304 = .ok (.iaload, 1) := by decide +kernel
theorem dX6_does_305 : decode cX6_does 305 = .ok (.iload 6, 2) := by decide +kernel
theorem dX6_does_307 : decode cX6_does 307 = .ok (.if_icmp .lt 7, 3) := by decide +kernel
theorem dX6_does_310 : decode cX6_does 310 = .ok (.iconst 1, 1) := by decide +kernel
theorem dX6_does_311 : decode cX6_does 311 = .ok (.goto 4, 3) := by decide +kernel
theorem dX6_does_314 : decode cX6_does 314 = .ok (.iconst 0, 1) := by decide +kernel
theorem dX6_does_315 : decode cX6_does 315 = .ok (.ireturn, 1) := by decide +kernel
theorem dX6_does_316 : decode cX6_does 316 = .ok (.aload_n 0, 1) := by decide +kernel
theorem dX6_does_317 : decode cX6_does 317 = .ok (.iload_n 3, 1) := by decide +kernel
theorem dX6_does_318 : decode cX6_does 318 = .ok (.invokevirtual 186, 3) := by decide +kernel
theorem dX6_does_321 : decode cX6_does 321 = .ok (.ifCond .eq 22, 3) := by decide +kernel
theorem dX6_does_324 : decode cX6_does 324 = .ok (.aload_n 0, 1) := by decide +kernel
theorem dX6_does_325 : decode cX6_does 325 = .ok (.getfield 19, 3) := by decide +kernel
theorem dX6_does_328 : decode cX6_does 328 = .ok (.iload_n 3, 1) := by decide +kernel
theorem dX6_does_329 : decode cX6_does 329 = .ok (.iconst 5, 1) := by decide +kernel
theorem dX6_does_330 : decode cX6_does 330 = .ok (.invokestatic 53, 3) := by decide +kernel
theorem dX6_does_333 : decode cX6_does 333 = .ok (.iaload, 1) := by decide +kernel
theorem dX6_does_334 : decode cX6_does 334 = .ok (.iload 6, 2) := by decide +kernel
theorem dX6_does_336 : decode cX6_does 336 = .ok (.if_icmp .lt 7, 3) := by decide +kernel
theorem dX6_does_339 : decode cX6_does 339 = .ok (.iconst 1, 1) := by decide +kernel
theorem dX6_does_340 : decode cX6_does 340 = .ok (.goto 4, 3) := by decide +kernel
theorem dX6_does_343 : decode cX6_does 343 = .ok (.iconst 0, 1) := by decide +kernel
theorem dX6_does_344 : decode cX6_does 344 = .ok (.ireturn, 1) := by decide +kernel
theorem dX6_does_345 : decode cX6_does 345 = .ok (.iload_n 3, 1) := by decide +kernel
theorem dX6_does_346 : decode cX6_does 346 = .ok (.ifCond .ne 29, 3) := by decide +kernel
theorem dX6_does_349 : decode cX6_does 349 = .ok (.iload 4, 2) := by decide +kernel
theorem dX6_does_351 : decode cX6_does 351 = .ok (.ifCond .ne 24, 3) := by decide +kernel
theorem dX6_does_354 : decode cX6_does 354 = .ok (.iload 5, 2) := by decide +kernel
theorem dX6_does_356 : decode cX6_does 356 = .ok (.iconst 2, 1) := by decide +kernel
theorem dX6_does_357 : decode cX6_does 357 = .ok (.if_icmp .ge 18, 3) := by decide +kernel
theorem dX6_does_360 : decode cX6_does 360 = .ok (.aload_n 0, 1) := by decide +kernel
theorem dX6_does_361 : decode cX6_does 361 = .ok (.getfield 19, 3) := by decide +kernel
theorem dX6_does_364 : decode cX6_does 364 = .ok (.iconst 3, 1) := by decide +kernel
theorem dX6_does_365 : decode cX6_does 365 = .ok (.iaload, 1) := by decide +kernel
theorem dX6_does_366 : decode cX6_does 366 = .ok (.iload 5, 2) := by decide +kernel
theorem dX6_does_368 : decode cX6_does 368 = .ok (.if_icmp .ne 7, 3) := by decide +kernel
theorem dX6_does_371 : decode cX6_does 371 = .ok (.iconst 1, 1) := by decide +kernel
theorem dX6_does_372 : decode cX6_does 372 = .ok (.goto 4, 3) := by decide +kernel
theorem dX6_does_375 : decode cX6_does 375 = .ok (.iconst 0, 1) := by decide +kernel
theorem dX6_does_376 : decode cX6_does 376 = .ok (.ireturn, 1) := by decide +kernel
theorem dX6_does_377 : decode cX6_does 377 = .ok (.iconst 0, 1) := by decide +kernel
theorem dX6_does_378 : decode cX6_does 378 = .ok (.ireturn, 1) := by decide +kernel
theorem dX6_runScript_0 : decode cX6_runScript 0 = .ok (.iload_n 1, 1) := by decide +kernel
theorem dX6_runScript_1 : decode cX6_runScript 1 = .ok (.i2l, 1) := by decide +kernel
theorem dX6_runScript_2 : decode cX6_runScript 2 = .ok (.lconst 1, 1) := by decide +kernel
theorem dX6_runScript_3 : decode cX6_runScript 3 = .ok (.ldc2_w 226, 3) := by decide +kernel
theorem dX6_runScript_6 : decode cX6_runScript 6 = .ok (.invokestatic 49, 3) := by decide +kernel
theorem dX6_runScript_9 : decode cX6_runScript 9 = .ok (.istore 4, 2) := by decide +kernel
theorem dX6_runScript_11 : decode cX6_runScript 11 = .ok (.aload_n 0, 1) := by decide +kernel
theorem dX6_runScript_12 : decode cX6_runScript 12 = .ok (.iload 4, 2) := by decide +kernel
theorem dX6_runScript_14 : decode cX6_runScript 14 = .ok (.ifCond .eq 32, 3) := by decide +kernel
theorem dX6_runScript_17 : decode cX6_runScript 17 = .ok (.lload_n 2, 1) := by decide +kernel
theorem dX6_runScript_18 : decode cX6_runScript 18 = .ok (.lconst 0, 1) := by decide +kernel
theorem dX6_runScript_19 : decode cX6_runScript 19 = .ok (.iload 4, 2) := by decide +kernel
theorem dX6_runScript_21 : decode cX6_runScript 21 = .ok (.ifCond .eq 9, 3) := by decide +kernel
theorem dX6_runScript_24 : decode cX6_runScript 24 = .ok (.iconst 4, 1) := by decide +kernel
theorem dX6_runScript_25 : decode cX6_runScript 25 = .ok (.iload_n 1, 1) := by decide +kernel
theorem dX6_runScript_26 : decode cX6_runScript 26 = .ok (.imul, 1) := by decide +kernel
theorem dX6_runScript_27 : decode cX6_runScript 27 = .ok (.goto 4, 3) := by decide +kernel
theorem dX6_runScript_30 : decode cX6_runScript 30 = .ok (.iconst 0, 1) := by decide +kernel
theorem dX6_runScript_31 : decode cX6_runScript 31 = .ok (.invokestatic 228, 3) := by decide +kernel
theorem dX6_runScript_34 : decode cX6_runScript 34 = .ok (.lconst 1, 1) := by decide +kernel
theorem dX6_runScript_35 : decode cX6_runScript 35 = .ok (.lsub, 1) := by decide +kernel
theorem dX6_runScript_36 : decode cX6_runScript 36 = .ok (.invokestatic 49, 3) := by decide +kernel
theorem dX6_runScript_39 : decode cX6_runScript 39 = .ok (.ifCond .eq 7, 3) := by decide +kernel
theorem dX6_runScript_42 : decode cX6_runScript 42 = .ok (.iconst 0, 1) := by decide +kernel
theorem dX6_runScript_43 : decode cX6_runScript 43 = .ok (.goto 4, 3) := by decide +kernel
theorem dX6_runScript_46 : decode cX6_runScript 46 = .ok (.iconst 1, 1) := by decide +kernel
theorem dX6_runScript_47 : decode cX6_runScript 47 = .ok (.invokevirtual 121, 3) := by decide +kernel
theorem dX6_runScript_50 : decode cX6_runScript 50 = .ok (.ifCond .eq 5, 3) := by decide +kernel
theorem dX6_runScript_53 : decode cX6_runScript 53 = .ok (.iconst 0, 1) := by decide +kernel
theorem dX6_runScript_54 : decode cX6_runScript 54 = .ok (.ireturn, 1) := by decide +kernel
theorem dX6_runScript_55 : decode cX6_runScript 55 = .ok (.aload_n 0, 1) := by decide +kernel
theorem dX6_runScript_56 : decode cX6_runScript 56 = .ok (.invokevirtual 220, 3) := by decide +kernel
theorem dX6_runScript_59 : decode cX6_runScript 59 = .ok (.iconst 0, 1) := by decide +kernel
theorem dX6_runScript_60 : decode cX6_runScript 60 = .ok (.istore 5, 2) := by decide +kernel
theorem dX6_runScript_62 : decode cX6_runScript 62 = .ok (.iload 5, 2) := by decide +kernel
theorem dX6_runScript_64 : decode cX6_runScript 64 = .ok (.iload_n 1, 1) := by decide +kernel
theorem dX6_runScript_65 : decode cX6_runScript 65 = .ok (.if_icmp .ge 37, 3) := by decide +kernel
theorem dX6_runScript_68 : decode cX6_runScript 68 = .ok (.aload_n 0, 1) := by decide +kernel
theorem dX6_runScript_69 : decode cX6_runScript 69 = .ok (.lload_n 2, 1) := by decide +kernel
theorem dX6_runScript_70 : decode cX6_runScript 70 = .ok (.iconst 4, 1) := by decide +kernel
theorem dX6_runScript_71 : decode cX6_runScript 71 = .ok (.iload_n 1, 1) := by decide +kernel
theorem dX6_runScript_72 : decode cX6_runScript 72 = .ok (.iconst 1, 1) := by decide +kernel
theorem dX6_runScript_73 : decode cX6_runScript 73 = .ok (.isub, 1) := by decide +kernel
theorem dX6_runScript_74 : decode cX6_runScript 74 = .ok (.iload 5, 2) := by decide +kernel
theorem dX6_runScript_76 : decode cX6_runScript 76 = .ok (.isub, 1) := by decide +kernel
theorem dX6_runScript_77 : decode cX6_runScript 77 = .ok (.imul, 1) := by decide +kernel
theorem dX6_runScript_78 : decode cX6_runScript 78 = .ok (.invokestatic 228, 3) := by decide +kernel
theorem dX6_runScript_81 : decode cX6_runScript 81 = .ok (.ldiv, 1) := by decide +kernel
theorem dX6_runScript_82 : decode cX6_runScript 82 = .ok (.ldc2_w 232, 3) := by decide +kernel
theorem dX6_runScript_85 : decode cX6_runScript 85 = .ok (.lrem, 1) := by decide +kernel
theorem dX6_runScript_86 : decode cX6_runScript 86 = .ok (.l2i, 1) := by decide +kernel
theorem dX6_runScript_87 : decode cX6_runScript 87 = .ok (.invokevirtual 234, 3) := by decide +kernel
theorem dX6_runScript_90 : decode cX6_runScript 90 = .ok (.ifCond .ne 6, 3) := by decide +kernel
theorem dX6_runScript_93 : decode cX6_runScript 93 = .ok (.iload 5, 2) := by decide +kernel
theorem dX6_runScript_95 : decode cX6_runScript 95 = .ok (.ireturn, 1) := by decide +kernel
theorem dX6_runScript_96 : decode cX6_runScript 96 = .ok (.iinc 5 1, 3) := by decide +kernel
theorem dX6_runScript_99 : decode cX6_runScript 99 = .ok (.goto (-37), 3) := by decide +kernel
theorem dX6_runScript_102 : decode cX6_runScript 102 = .ok (.ldc 64, 2) := by decide +kernel
theorem dX6_runScript_104 : decode cX6_runScript 104 = .ok (.ireturn, 1) := by decide +kernel
theorem dX6_simulate_0 : decode cX6_simulate 0 = .ok (.aload_n 0, 1) := by decide +kernel
theorem dX6_simulate_1 : decode cX6_simulate 1 = .ok (.iload_n 3, 1) := by decide +kernel
theorem dX6_simulate_2 : decode cX6_simulate 2 = .ok (.i2l, 1) := by decide +kernel
theorem dX6_simulate_3 : decode cX6_simulate 3 = .ok (.lconst 1, 1) := by decide +kernel
theorem dX6_simulate_4 : decode cX6_simulate 4 = .ok (.ldc2_w 210, 3) := by decide +kernel
theorem dX6_simulate_7 : decode cX6_simulate 7 = .ok (.invokestatic 49, 3) := by decide +kernel
theorem dX6_simulate_10 : decode cX6_simulate 10 = .ok (.ifCond .eq 7, 3) := by decide +kernel
theorem dX6_simulate_13 : decode cX6_simulate 13 = .ok (.iconst 0, 1) := by decide +kernel
theorem dX6_simulate_14 : decode cX6_simulate 14 = .ok (.goto 4, 3) := by decide +kernel
theorem dX6_simulate_17 : decode cX6_simulate 17 = .ok (.iconst 1, 1) := by decide +kernel
theorem dX6_simulate_18 : decode cX6_simulate 18 = .ok (.invokevirtual 121, 3) := by decide +kernel
theorem dX6_simulate_21 : decode cX6_simulate 21 = .ok (.ifCond .eq 5, 3) := by decide +kernel
theorem dX6_simulate_24 : decode cX6_simulate 24 = .ok (.lconst 0, 1) := by decide +kernel
theorem dX6_simulate_25 : decode cX6_simulate 25 = .ok (.lreturn, 1) := by decide +kernel
theorem dX6_simulate_26 : decode cX6_simulate 26 = .ok (.aload_n 0, 1) := by decide +kernel
theorem dX6_simulate_27 : decode cX6_simulate 27 = .ok (.invokevirtual 220, 3) := by decide +kernel
theorem dX6_simulate_30 : decode cX6_simulate 30 = .ok (.lload_n 1, 1) := by decide +kernel
theorem dX6_simulate_31 : decode cX6_simulate 31 = .ok (.lstore 4, 2) := by decide +kernel
theorem dX6_simulate_33 : decode cX6_simulate 33 = .ok (.lconst 0, 1) := by decide +kernel
theorem dX6_simulate_34 : decode cX6_simulate 34 = .ok (.lstore 6, 2) := by decide +kernel
theorem dX6_simulate_36 : decode cX6_simulate 36 = .ok (.iconst 0, 1) := by decide +kernel
theorem dX6_simulate_37 : decode cX6_simulate 37 = .ok (.istore 8, 2) := by decide +kernel
theorem dX6_simulate_39 : decode cX6_simulate 39 = .ok (.iload 8, 2) := by decide +kernel
theorem dX6_simulate_41 : decode cX6_simulate 41 = .ok (.iload_n 3, 1) := by decide +kernel
theorem dX6_simulate_42 : decode cX6_simulate 42 = .ok (.if_icmp .ge 104, 3) := by decide +kernel
theorem dX6_simulate_45 : decode cX6_simulate 45 = .ok (.lload 4, 2) := by decide +kernel
theorem dX6_simulate_47 : decode cX6_simulate 47 = .ok (.ldc2_w 237, 3) := by decide +kernel
theorem dX6_simulate_50 : decode cX6_simulate 50 = .ok (.lmul, 1) := by decide +kernel
theorem dX6_simulate_51 : decode cX6_simulate 51 = .ok (.ldc2_w 239, 3) := by decide +kernel
theorem dX6_simulate_54 : decode cX6_simulate 54 = .ok (.ladd, 1) := by decide +kernel
theorem dX6_simulate_55 : decode cX6_simulate 55 = .ok (.lstore 4, 2) := by decide +kernel
theorem dX6_simulate_57 : decode cX6_simulate 57 = .ok (.lload 4, 2) := by decide +kernel
theorem dX6_simulate_59 : decode cX6_simulate 59 = .ok (.bipush 33, 2) := by decide +kernel
theorem dX6_simulate_61 : decode cX6_simulate 61 = .ok (.lushr, 1) := by decide +kernel
theorem dX6_simulate_62 : decode cX6_simulate 62 = .ok (.l2i, 1) := by decide +kernel
theorem dX6_simulate_63 : decode cX6_simulate 63 = .ok (.istore 9, 2) := by decide +kernel
theorem dX6_simulate_65 : decode cX6_simulate 65 = .ok (.aload_n 0, 1) := by decide +kernel
theorem dX6_simulate_66 : decode cX6_simulate 66 = .ok (.getfield 19, 3) := by decide +kernel
theorem dX6_simulate_69 : decode cX6_simulate 69 = .ok (.iconst 2, 1) := by decide +kernel
theorem dX6_simulate_70 : decode cX6_simulate 70 = .ok (.iload 9, 2) := by decide +kernel
theorem dX6_simulate_72 : decode cX6_simulate 72 = .ok (.bipush 61, 2) := by decide +kernel
theorem dX6_simulate_74 : decode cX6_simulate 74 = .ok (.irem, 1) := by decide +kernel
theorem dX6_simulate_75 : decode cX6_simulate 75 = .ok (.bipush 20, 2) := by decide +kernel
theorem dX6_simulate_77 : decode cX6_simulate 77 = .ok (.isub, 1) := by decide +kernel
theorem dX6_simulate_78 : decode cX6_simulate 78 = .ok (.iastore, 1) := by decide +kernel
theorem dX6_simulate_79 : decode cX6_simulate 79 = .ok (.aload_n 0, 1) := by decide +kernel
theorem dX6_simulate_80 : decode cX6_simulate 80 = .ok (.getfield 19, 3) := by decide +kernel
theorem dX6_simulate_83 : decode cX6_simulate 83 = .ok (.iconst 0, 1) := by decide +kernel
theorem dX6_simulate_84 : decode cX6_simulate 84 = .ok (.iaload, 1) := by decide +kernel
theorem dX6_simulate_85 : decode cX6_simulate 85 = .ok (.ifCond .le 40, 3) := by decide +kernel
theorem dX6_simulate_88 : decode cX6_simulate 88 = .ok (.aload_n 0, 1) := by decide +kernel
theorem dX6_simulate_89 : decode cX6_simulate 89 = .ok (.getfield 19, 3) := by decide +kernel
theorem dX6_simulate_92 : decode cX6_simulate 92 = .ok (.iload 9, 2) := by decide +kernel
theorem dX6_simulate_94 : decode cX6_simulate 94 = .ok (.bipush 64, 2) := by decide +kernel
theorem dX6_simulate_96 : decode cX6_simulate 96 = .ok (.idiv, 1) := by decide +kernel
theorem dX6_simulate_97 : decode cX6_simulate 97 = .ok (.aload_n 0, 1) := by decide +kernel
theorem dX6_simulate_98 : decode cX6_simulate 98 = .ok (.getfield 19, 3) := by decide +kernel
theorem dX6_simulate_101 : decode cX6_simulate 101 = .ok (.iconst 0, 1) := by decide +kernel
theorem dX6_simulate_102 : decode cX6_simulate 102 = .ok (.iaload, 1) := by decide +kernel
theorem dX6_simulate_103 : decode cX6_simulate 103 = .ok (.irem, 1) := by decide +kernel
theorem dX6_simulate_104 : decode cX6_simulate 104 = .ok (.iconst 4, 1) := by decide +kernel
theorem dX6_simulate_105 : decode cX6_simulate 105 = .ok (.invokestatic 53, 3) := by decide +kernel
theorem dX6_simulate_108 : decode cX6_simulate 108 = .ok (.iload 9, 2) := by decide +kernel
theorem dX6_simulate_110 : decode cX6_simulate 110 = .ok (.sipush 512, 3) := by decide +kernel
theorem dX6_simulate_113 : decode cX6_simulate 113 = .ok (.idiv, 1) := by decide +kernel
theorem dX6_simulate_114 : decode cX6_simulate 114 = .ok (.iconst 4, 1) := by decide +kernel
theorem dX6_simulate_115 : decode cX6_simulate 115 = .ok (.irem, 1) := by decide +kernel
theorem dX6_simulate_116 : decode cX6_simulate 116 = .ok (.ifCond .ne 7, 3) := by decide +kernel
theorem dX6_simulate_119 : decode cX6_simulate 119 = .ok (.iconst 1, 1) := by decide +kernel
theorem dX6_simulate_120 : decode cX6_simulate 120 = .ok (.goto 4, 3) := by decide +kernel
theorem dX6_simulate_123 : decode cX6_simulate 123 = .ok (.iconst 0, 1) := by decide +kernel
theorem dX6_simulate_124 : decode cX6_simulate 124 = .ok (.iastore, 1) := by decide +kernel
theorem dX6_simulate_125 : decode cX6_simulate 125 = .ok (.lload 6, 2) := by decide +kernel
theorem dX6_simulate_127 : decode cX6_simulate 127 = .ok (.aload_n 0, 1) := by decide +kernel
theorem dX6_simulate_128 : decode cX6_simulate 128 = .ok (.getfield 19, 3) := by decide +kernel
theorem dX6_simulate_131 : decode cX6_simulate 131 = .ok (.bipush 10, 2) := by decide +kernel
theorem dX6_simulate_133 : decode cX6_simulate 133 = .ok (.invokestatic 212, 3) := by decide +kernel
theorem dX6_simulate_136 : decode cX6_simulate 136 = .ok (.i2l, 1) := by decide +kernel
theorem dX6_simulate_137 : decode cX6_simulate 137 = .ok (.ladd, 1) := by decide +kernel
theorem dX6_simulate_138 : decode cX6_simulate 138 = .ok (.lstore 6, 2) := by decide +kernel
theorem dX6_simulate_140 : decode cX6_simulate 140 = .ok (.iinc 8 1, 3) := by decide +kernel
theorem dX6_simulate_143 : decode cX6_simulate 143 = .ok (.goto (-104), 3) := by decide +kernel
theorem dX6_simulate_146 : decode cX6_simulate 146 = .ok (.ldc2_w 241, 3) := by decide +kernel
theorem dX6_simulate_149 : decode cX6_simulate 149 = .ok (.lload 6, 2) := by decide +kernel
theorem dX6_simulate_151 : decode cX6_simulate 151 = .ok (.lmul, 1) := by decide +kernel
theorem dX6_simulate_152 : decode cX6_simulate 152 = .ok (.aload_n 0, 1) := by decide +kernel
theorem dX6_simulate_153 : decode cX6_simulate 153 = .ok (.getfield 19, 3) := by decide +kernel
theorem dX6_simulate_156 : decode cX6_simulate 156 = .ok (.bipush 9, 2) := by decide +kernel
theorem dX6_simulate_158 : decode cX6_simulate 158 = .ok (.iconst 0, 1) := by decide +kernel
theorem dX6_simulate_159 : decode cX6_simulate 159 = .ok (.invokestatic 191, 3) := by decide +kernel
theorem dX6_simulate_162 : decode cX6_simulate 162 = .ok (.i2l, 1) := by decide +kernel
theorem dX6_simulate_163 : decode cX6_simulate 163 = .ok (.ladd, 1) := by decide +kernel
theorem dX6_simulate_164 : decode cX6_simulate 164 = .ok (.aload_n 0, 1) := by decide +kernel
theorem dX6_simulate_165 : decode cX6_simulate 165 = .ok (.getfield 16, 3) := by decide +kernel
theorem dX6_simulate_168 : decode cX6_simulate 168 = .ok (.bipush 9, 2) := by decide +kernel
theorem dX6_simulate_170 : decode cX6_simulate 170 = .ok (.iconst 0, 1) := by decide +kernel
theorem dX6_simulate_171 : decode cX6_simulate 171 = .ok (.invokestatic 191, 3) := by decide +kernel
theorem dX6_simulate_174 : decode cX6_simulate 174 = .ok (.i2l, 1) := by decide +kernel
theorem dX6_simulate_175 : decode cX6_simulate 175 = .ok (.lsub, 1) := by decide +kernel
theorem dX6_simulate_176 : decode cX6_simulate 176 = .ok (.lreturn, 1) := by decide +kernel
theorem dX6_save_0 : decode cX6_save 0 = .ok (.aload_n 0, 1) := by decide +kernel
theorem dX6_save_1 : decode cX6_save 1 = .ok (.iload_n 1, 1) := by decide +kernel
theorem dX6_save_2 : decode cX6_save 2 = .ok (.i2l, 1) := by decide +kernel
theorem dX6_save_3 : decode cX6_save 3 = .ok (.lconst 0, 1) := by decide +kernel
theorem dX6_save_4 : decode cX6_save 4 = .ok (.lconst 1, 1) := by decide +kernel
theorem dX6_save_5 : decode cX6_save 5 = .ok (.invokestatic 49, 3) := by decide +kernel
theorem dX6_save_8 : decode cX6_save 8 = .ok (.ifCond .eq 7, 3) := by decide +kernel
theorem dX6_save_11 : decode cX6_save 11 = .ok (.iconst 0, 1) := by decide +kernel
theorem dX6_save_12 : decode cX6_save 12 = .ok (.goto 4, 3) := by decide +kernel
theorem dX6_save_15 : decode cX6_save 15 = .ok (.iconst 1, 1) := by decide +kernel
theorem dX6_save_16 : decode cX6_save 16 = .ok (.invokevirtual 121, 3) := by decide +kernel
theorem dX6_save_19 : decode cX6_save 19 = .ok (.ifCond .eq 5, 3) := by decide +kernel
theorem dX6_save_22 : decode cX6_save 22 = .ok (.iconst 0, 1) := by decide +kernel
theorem dX6_save_23 : decode cX6_save 23 = .ok (.ireturn, 1) := by decide +kernel
theorem dX6_save_24 : decode cX6_save 24 = .ok (.aload_n 0, 1) := by decide +kernel
theorem dX6_save_25 : decode cX6_save 25 = .ok (.getfield 16, 3) := by decide +kernel
theorem dX6_save_28 : decode cX6_save 28 = .ok (.iconst 0, 1) := by decide +kernel
theorem dX6_save_29 : decode cX6_save 29 = .ok (.aload_n 0, 1) := by decide +kernel
theorem dX6_save_30 : decode cX6_save 30 = .ok (.getfield 25, 3) := by decide +kernel
theorem dX6_save_33 : decode cX6_save 33 = .ok (.sipush 128, 3) := by decide +kernel
theorem dX6_save_36 : decode cX6_save 36 = .ok (.iload_n 1, 1) := by decide +kernel
theorem dX6_save_37 : decode cX6_save 37 = .ok (.imul, 1) := by decide +kernel
theorem dX6_save_38 : decode cX6_save 38 = .ok (.sipush 128, 3) := by decide +kernel
theorem dX6_save_41 : decode cX6_save 41 = .ok (.invokestatic 45, 3) := by decide +kernel
theorem dX6_save_44 : decode cX6_save 44 = .ok (.aload_n 0, 1) := by decide +kernel
theorem dX6_save_45 : decode cX6_save 45 = .ok (.getfield 28, 3) := by decide +kernel
theorem dX6_save_48 : decode cX6_save 48 = .ok (.iload_n 1, 1) := by decide +kernel
theorem dX6_save_49 : decode cX6_save 49 = .ok (.iconst 1, 1) := by decide +kernel
theorem dX6_save_50 : decode cX6_save 50 = .ok (.bastore, 1) := by decide +kernel
theorem dX6_save_51 : decode cX6_save 51 = .ok (.aload_n 0, 1) := by decide +kernel
theorem dX6_save_52 : decode cX6_save 52 = .ok (.getfield 16, 3) := by decide +kernel
theorem dX6_save_55 : decode cX6_save 55 = .ok (.iconst 1, 1) := by decide +kernel
theorem dX6_save_56 : decode cX6_save 56 = .ok (.iaload, 1) := by decide +kernel
theorem dX6_save_57 : decode cX6_save 57 = .ok (.ireturn, 1) := by decide +kernel
theorem dX6_restore_0 : decode cX6_restore 0 = .ok (.aload_n 0, 1) := by decide +kernel
theorem dX6_restore_1 : decode cX6_restore 1 = .ok (.iload_n 1, 1) := by decide +kernel
theorem dX6_restore_2 : decode cX6_restore 2 = .ok (.i2l, 1) := by decide +kernel
theorem dX6_restore_3 : decode cX6_restore 3 = .ok (.lconst 0, 1) := by decide +kernel
theorem dX6_restore_4 : decode cX6_restore 4 = .ok (.lconst 1, 1) := by decide +kernel
theorem dX6_restore_5 : decode cX6_restore 5 = .ok (.invokestatic 49, 3) := by decide +kernel
theorem dX6_restore_8 : decode cX6_restore 8 = .ok (.ifCond .ne 7, 3) := by decide +kernel
theorem dX6_restore_11 : decode cX6_restore 11 = .ok (.iconst 1, 1) := by decide +kernel
theorem dX6_restore_12 : decode cX6_restore 12 = .ok (.goto 17, 3) := by decide +kernel
theorem dX6_restore_15 : decode cX6_restore 15 = .ok (.aload_n 0, 1) := by decide +kernel
theorem dX6_restore_16 : decode cX6_restore 16 = .ok (.getfield 28, 3) := by decide +kernel
theorem dX6_restore_19 : decode cX6_restore 19 = .ok (.iload_n 1, 1) := by decide +kernel
theorem dX6_restore_20 : decode cX6_restore 20 = .ok (.baload, 1) := by decide +kernel
theorem dX6_restore_21 : decode cX6_restore 21 = .ok (.ifCond .eq 7, 3) := by decide +kernel
theorem dX6_restore_24 : decode cX6_restore 24 = .ok (.iconst 0, 1) := by decide +kernel
theorem dX6_restore_25 : decode cX6_restore 25 = .ok (.goto 4, 3) := by decide +kernel
theorem dX6_restore_28 : decode cX6_restore 28 = .ok (.iconst 2, 1) := by decide +kernel
theorem dX6_restore_29 : decode cX6_restore 29 = .ok (.invokevirtual 121, 3) := by decide +kernel
theorem dX6_restore_32 : decode cX6_restore 32 = .ok (.ifCond .eq 5, 3) := by decide +kernel
theorem dX6_restore_35 : decode cX6_restore 35 = .ok (.iconst 0, 1) := by decide +kernel
theorem dX6_restore_36 : decode cX6_restore 36 = .ok (.ireturn, 1) := by decide +kernel
theorem dX6_restore_37 : decode cX6_restore 37 = .ok (.aload_n 0, 1) := by decide +kernel
theorem dX6_restore_38 : decode cX6_restore 38 = .ok (.getfield 25, 3) := by decide +kernel
theorem dX6_restore_41 : decode cX6_restore 41 = .ok (.sipush 128, 3) := by decide +kernel
theorem dX6_restore_44 : decode cX6_restore 44 = .ok (.iload_n 1, 1) := by decide +kernel
theorem dX6_restore_45 : decode cX6_restore 45 = .ok (.imul, 1) := by decide +kernel
theorem dX6_restore_46 : decode cX6_restore 46 = .ok (.aload_n 0, 1) := by decide +kernel
theorem dX6_restore_47 : decode cX6_restore 47 = .ok (.getfield 16, 3) := by decide +kernel
theorem dX6_restore_50 : decode cX6_restore 50 = .ok (.iconst 0, 1) := by decide +kernel
theorem dX6_restore_51 : decode cX6_restore 51 = .ok (.sipush 128, 3) := by decide +kernel
theorem dX6_restore_54 : decode cX6_restore 54 = .ok (.invokestatic 45, 3) := by decide +kernel
theorem dX6_restore_57 : decode cX6_restore 57 = .ok (.aload_n 0, 1) := by decide +kernel
theorem dX6_restore_58 : decode cX6_restore 58 = .ok (.iconst 0, 1) := by decide +kernel
theorem dX6_restore_59 : decode cX6_restore 59 = .ok (.putfield 42, 3) := by decide +kernel
theorem dX6_restore_62 : decode cX6_restore 62 = .ok (.aload_n 0, 1) := by decide +kernel
theorem dX6_restore_63 : decode cX6_restore 63 = .ok (.getfield 16, 3) := by decide +kernel
theorem dX6_restore_66 : decode cX6_restore 66 = .ok (.iconst 1, 1) := by decide +kernel
theorem dX6_restore_67 : decode cX6_restore 67 = .ok (.iaload, 1) := by decide +kernel
theorem dX6_restore_68 : decode cX6_restore 68 = .ok (.ireturn, 1) := by decide +kernel
theorem dJ9_floorDiv_7cf53_0 : decode cJ9_floorDiv_7cf53 0 = .ok (.iload_n 0, 1) := by decide +kernel
theorem dJ9_floorDiv_7cf53_1 : decode cJ9_floorDiv_7cf53 1 = .ok (.iload_n 1, 1) := by decide +kernel
theorem dJ9_floorDiv_7cf53_2 : decode cJ9_floorDiv_7cf53 2 = .ok (.idiv, 1) := by decide +kernel
theorem dJ9_floorDiv_7cf53_3 : decode cJ9_floorDiv_7cf53 3 = .ok (.istore_n 2, 1) := by decide +kernel
theorem dJ9_floorDiv_7cf53_4 : decode cJ9_floorDiv_7cf53 4 = .ok (.iload_n 0, 1) := by decide +kernel
theorem dJ9_floorDiv_7cf53_5 : decode cJ9_floorDiv_7cf53 5 = .ok (.iload_n 1, 1) := by decide +kernel
theorem dJ9_floorDiv_7cf53_6 : decode cJ9_floorDiv_7cf53 6 = .ok (.ixor, 1) := by decide +kernel
theorem dJ9_floorDiv_7cf53_7 : decode cJ9_floorDiv_7cf53 7 = .ok (.ifCond .ge 14, 3) := by decide +kernel
theorem dJ9_floorDiv_7cf53_10 : decode cJ9_floorDiv_7cf53 10 = .ok (.iload_n 2, 1) := by decide +kernel
theorem dJ9_floorDiv_7cf53_11 : decode cJ9_floorDiv_7cf53 11 = .ok (.iload_n 1, 1) := by decide +kernel
theorem dJ9_floorDiv_7cf53_12 : decode cJ9_floorDiv_7cf53 12 = .ok (.imul, 1) := by decide +kernel
theorem dJ9_floorDiv_7cf53_13 : decode cJ9_floorDiv_7cf53 13 = .ok (.iload_n 0, 1) := by decide +kernel
theorem dJ9_floorDiv_7cf53_14 : decode cJ9_floorDiv_7cf53 14 = .ok (.if_icmp .eq 7, 3) := by decide +kernel
theorem dJ9_floorDiv_7cf53_17 : decode cJ9_floorDiv_7cf53 17 = .ok (.iload_n 2, 1) := by decide +kernel
theorem dJ9_floorDiv_7cf53_18 : decode cJ9_floorDiv_7cf53 18 = .ok (.iconst 1, 1) := by decide +kernel
theorem dJ9_floorDiv_7cf53_19 : decode cJ9_floorDiv_7cf53 19 = .ok (.isub, 1) := by decide +kernel
theorem dJ9_floorDiv_7cf53_20 : decode cJ9_floorDiv_7cf53 20 = .ok (.ireturn, 1) := by decide +kernel
theorem dJ9_floorDiv_7cf53_21 : decode cJ9_floorDiv_7cf53 21 = .ok (.iload_n 2, 1) := by decide +kernel
theorem dJ9_floorDiv_7cf53_22 : decode cJ9_floorDiv_7cf53 22 = .ok (.ireturn, 1) := by decide +kernel
theorem dJ9_max_7cf53_0 : decode cJ9_max_7cf53 0 = .ok (.iload_n 0, 1) := by decide +kernel
theorem dJ9_max_7cf53_1 : decode cJ9_max_7cf53 1 = .ok (.iload_n 1, 1) := by decide +kernel
theorem dJ9_max_7cf53_2 : decode cJ9_max_7cf53 2 = .ok (.if_icmp .lt 7, 3) := by decide +kernel
theorem dJ9_max_7cf53_5 : decode cJ9_max_7cf53 5 = .ok (.iload_n 0, 1) := by decide +kernel
theorem dJ9_max_7cf53_6 : decode cJ9_max_7cf53 6 = .ok (.goto 4, 3) := by decide +kernel
theorem dJ9_max_7cf53_9 : decode cJ9_max_7cf53 9 = .ok (.iload_n 1, 1) := by decide +kernel
theorem dJ9_max_7cf53_10 : decode cJ9_max_7cf53 10 = .ok (.ireturn, 1) := by decide +kernel
theorem dJ9_min_7cf53_0 : decode cJ9_min_7cf53 0 = .ok (.iload_n 0, 1) := by decide +kernel
theorem dJ9_min_7cf53_1 : decode cJ9_min_7cf53 1 = .ok (.iload_n 1, 1) := by decide +kernel
theorem dJ9_min_7cf53_2 : decode cJ9_min_7cf53 2 = .ok (.if_icmp .gt 7, 3) := by decide +kernel
theorem dJ9_min_7cf53_5 : decode cJ9_min_7cf53 5 = .ok (.iload_n 0, 1) := by decide +kernel
theorem dJ9_min_7cf53_6 : decode cJ9_min_7cf53 6 = .ok (.goto 4, 3) := by decide +kernel
theorem dJ9_min_7cf53_9 : decode cJ9_min_7cf53 9 = .ok (.iload_n 1, 1) := by decide +kernel
theorem dJ9_min_7cf53_10 : decode cJ9_min_7cf53 10 = .ok (.ireturn, 1) := by decide +kernel
theorem dL_append_0 : decode cL_append 0 = .ok (.aload_n 2, 1) := by decide +kernel
theorem dL_append_1 : decode cL_append 1 = .ok (.iconst 0, 1) := by decide +kernel
theorem dL_append_2 : decode cL_append 2 = .ok (.aload_n 0, 1) := by decide +kernel
theorem dL_append_3 : decode cL_append 3 = .ok (.iload_n 1, 1) := by decide +kernel
theorem dL_append_4 : decode cL_append 4 = .ok (.invokevirtual 7, 3) := by decide +kernel
theorem dL_append_7 : decode cL_append 7 = .ok (.i2l, 1) := by decide +kernel
theorem dL_append_8 : decode cL_append 8 = .ok (.lastore, 1) := by decide +kernel
theorem dL_append_9 : decode cL_append 9 = .ok (.goto 9, 3) := by decide +kernel
theorem dL_append_12 : decode cL_append 12 = .ok (.astore_n 3, 1) := by decide +kernel
theorem dL_append_13 : decode cL_append 13 = .ok (.iconst 1, 1) := by decide +kernel
theorem dL_append_14 : decode cL_append 14 = .ok (.ireturn, 1) := by decide +kernel
theorem dL_append_15 : decode cL_append 15 = .ok (.astore_n 3, 1) := by decide +kernel
theorem dL_append_16 : decode cL_append 16 = .ok (.iconst 2, 1) := by decide +kernel
theorem dL_append_17 : decode cL_append 17 = .ok (.ireturn, 1) := by decide +kernel
theorem dL_append_18 : decode cL_append 18 = .ok (.iconst 0, 1) := by decide +kernel
theorem dL_append_19 : decode cL_append 19 = .ok (.ireturn, 1) := by decide +kernel
theorem dL_load_0 : decode cL_load 0 = .ok (.aload_n 1, 1) := by decide +kernel
theorem dL_load_1 : decode cL_load 1 = .ok (.iconst 0, 1) := by decide +kernel
theorem dL_load_2 : decode cL_load 2 = .ok (.aload_n 0, 1) := by decide +kernel
theorem dL_load_3 : decode cL_load 3 = .ok (.invokevirtual 17, 3) := by decide +kernel
theorem dL_load_6 : decode cL_load 6 = .ok (.i2l, 1) := by decide +kernel
theorem dL_load_7 : decode cL_load 7 = .ok (.lastore, 1) := by decide +kernel
theorem dL_load_8 : decode cL_load 8 = .ok (.goto 6, 3) := by decide +kernel
theorem dL_load_11 : decode cL_load 11 = .ok (.astore_n 2, 1) := by decide +kernel
theorem dL_load_12 : decode cL_load 12 = .ok (.iconst 1, 1) := by decide +kernel
theorem dL_load_13 : decode cL_load 13 = .ok (.ireturn, 1) := by decide +kernel
theorem dL_load_14 : decode cL_load 14 = .ok (.iconst 0, 1) := by decide +kernel
theorem dL_load_15 : decode cL_load 15 = .ok (.ireturn, 1) := by decide +kernel
theorem dL_about_0 : decode cL_about 0 = .ok (.aload_n 2, 1) := by decide +kernel
theorem dL_about_1 : decode cL_about 1 = .ok (.iconst 0, 1) := by decide +kernel
theorem dL_about_2 : decode cL_about 2 = .ok (.aload_n 0, 1) := by decide +kernel
theorem dL_about_3 : decode cL_about 3 = .ok (.iload_n 1, 1) := by decide +kernel
theorem dL_about_4 : decode cL_about 4 = .ok (.invokevirtual 21, 3) := by decide +kernel
theorem dL_about_7 : decode cL_about 7 = .ok (.i2l, 1) := by decide +kernel
theorem dL_about_8 : decode cL_about 8 = .ok (.lastore, 1) := by decide +kernel
theorem dL_about_9 : decode cL_about 9 = .ok (.goto 6, 3) := by decide +kernel
theorem dL_about_12 : decode cL_about 12 = .ok (.astore_n 3, 1) := by decide +kernel
theorem dL_about_13 : decode cL_about 13 = .ok (.iconst 1, 1) := by decide +kernel
theorem dL_about_14 : decode cL_about 14 = .ok (.ireturn, 1) := by decide +kernel
theorem dL_about_15 : decode cL_about 15 = .ok (.iconst 0, 1) := by decide +kernel
theorem dL_about_16 : decode cL_about 16 = .ok (.ireturn, 1) := by decide +kernel
theorem dL_setting_0 : decode cL_setting 0 = .ok (.aload_n 2, 1) := by decide +kernel
theorem dL_setting_1 : decode cL_setting 1 = .ok (.iconst 0, 1) := by decide +kernel
theorem dL_setting_2 : decode cL_setting 2 = .ok (.aload_n 0, 1) := by decide +kernel
theorem dL_setting_3 : decode cL_setting 3 = .ok (.iload_n 1, 1) := by decide +kernel
theorem dL_setting_4 : decode cL_setting 4 = .ok (.invokevirtual 24, 3) := by decide +kernel
theorem dL_setting_7 : decode cL_setting 7 = .ok (.i2l, 1) := by decide +kernel
theorem dL_setting_8 : decode cL_setting 8 = .ok (.lastore, 1) := by decide +kernel
theorem dL_setting_9 : decode cL_setting 9 = .ok (.goto 6, 3) := by decide +kernel
theorem dL_setting_12 : decode cL_setting 12 = .ok (.astore_n 3, 1) := by decide +kernel
theorem dL_setting_13 : decode cL_setting 13 = .ok (.iconst 1, 1) := by decide +kernel
theorem dL_setting_14 : decode cL_setting 14 = .ok (.ireturn, 1) := by decide +kernel
theorem dL_setting_15 : decode cL_setting 15 = .ok (.iconst 0, 1) := by decide +kernel
theorem dL_setting_16 : decode cL_setting 16 = .ok (.ireturn, 1) := by decide +kernel
theorem dL_place_0 : decode cL_place 0 = .ok (.aload_n 3, 1) := by decide +kernel
theorem dL_place_1 : decode cL_place 1 = .ok (.iconst 0, 1) := by decide +kernel
theorem dL_place_2 : decode cL_place 2 = .ok (.aload_n 0, 1) := by decide +kernel
theorem dL_place_3 : decode cL_place 3 = .ok (.iload_n 1, 1) := by decide +kernel
theorem dL_place_4 : decode cL_place 4 = .ok (.iload_n 2, 1) := by decide +kernel
theorem dL_place_5 : decode cL_place 5 = .ok (.invokevirtual 27, 3) := by decide +kernel
theorem dL_place_8 : decode cL_place 8 = .ok (.i2l, 1) := by decide +kernel
theorem dL_place_9 : decode cL_place 9 = .ok (.lastore, 1) := by decide +kernel
theorem dL_place_10 : decode cL_place 10 = .ok (.goto 11, 3) := by decide +kernel
theorem dL_place_13 : decode cL_place 13 = .ok (.astore 4, 2) := by decide +kernel
theorem dL_place_15 : decode cL_place 15 = .ok (.iconst 1, 1) := by decide +kernel
theorem dL_place_16 : decode cL_place 16 = .ok (.ireturn, 1) := by decide +kernel
theorem dL_place_17 : decode cL_place 17 = .ok (.astore 4, 2) := by decide +kernel
theorem dL_place_19 : decode cL_place 19 = .ok (.iconst 2, 1) := by decide +kernel
theorem dL_place_20 : decode cL_place 20 = .ok (.ireturn, 1) := by decide +kernel
theorem dL_place_21 : decode cL_place 21 = .ok (.iconst 0, 1) := by decide +kernel
theorem dL_place_22 : decode cL_place 22 = .ok (.ireturn, 1) := by decide +kernel
theorem dL_room_0 : decode cL_room 0 = .ok (.aload_n 3, 1) := by decide +kernel
theorem dL_room_1 : decode cL_room 1 = .ok (.iconst 0, 1) := by decide +kernel
theorem dL_room_2 : decode cL_room 2 = .ok (.aload_n 0, 1) := by decide +kernel
theorem dL_room_3 : decode cL_room 3 = .ok (.iload_n 1, 1) := by decide +kernel
theorem dL_room_4 : decode cL_room 4 = .ok (.iload_n 2, 1) := by decide +kernel
theorem dL_room_5 : decode cL_room 5 = .ok (.invokevirtual 33, 3) := by decide +kernel
theorem dL_room_8 : decode cL_room 8 = .ok (.i2l, 1) := by decide +kernel
theorem dL_room_9 : decode cL_room 9 = .ok (.lastore, 1) := by decide +kernel
theorem dL_room_10 : decode cL_room 10 = .ok (.goto 11, 3) := by decide +kernel
theorem dL_room_13 : decode cL_room 13 = .ok (.astore 4, 2) := by decide +kernel
theorem dL_room_15 : decode cL_room 15 = .ok (.iconst 1, 1) := by decide +kernel
theorem dL_room_16 : decode cL_room 16 = .ok (.ireturn, 1) := by decide +kernel
theorem dL_room_17 : decode cL_room 17 = .ok (.astore 4, 2) := by decide +kernel
theorem dL_room_19 : decode cL_room 19 = .ok (.iconst 2, 1) := by decide +kernel
theorem dL_room_20 : decode cL_room 20 = .ok (.ireturn, 1) := by decide +kernel
theorem dL_room_21 : decode cL_room 21 = .ok (.iconst 0, 1) := by decide +kernel
theorem dL_room_22 : decode cL_room 22 = .ok (.ireturn, 1) := by decide +kernel
theorem dL_moved_0 : decode cL_moved 0 = .ok (.aload_n 3, 1) := by decide +kernel
theorem dL_moved_1 : decode cL_moved 1 = .ok (.iconst 0, 1) := by decide +kernel
theorem dL_moved_2 : decode cL_moved 2 = .ok (.aload_n 0, 1) := by decide +kernel
theorem dL_moved_3 : decode cL_moved 3 = .ok (.iload_n 1, 1) := by decide +kernel
theorem dL_moved_4 : decode cL_moved 4 = .ok (.iload_n 2, 1) := by decide +kernel
theorem dL_moved_5 : decode cL_moved 5 = .ok (.invokevirtual 36, 3) := by decide +kernel
theorem dL_moved_8 : decode cL_moved 8 = .ok (.i2l, 1) := by decide +kernel
theorem dL_moved_9 : decode cL_moved 9 = .ok (.lastore, 1) := by decide +kernel
theorem dL_moved_10 : decode cL_moved 10 = .ok (.goto 7, 3) := by decide +kernel
theorem dL_moved_13 : decode cL_moved 13 = .ok (.astore 4, 2) := by decide +kernel
theorem dL_moved_15 : decode cL_moved 15 = .ok (.iconst 1, 1) := by decide +kernel
theorem dL_moved_16 : decode cL_moved 16 = .ok (.ireturn, 1) := by decide +kernel
theorem dL_moved_17 : decode cL_moved 17 = .ok (.iconst 0, 1) := by decide +kernel
theorem dL_moved_18 : decode cL_moved 18 = .ok (.ireturn, 1) := by decide +kernel
theorem dL_way_0 : decode cL_way 0 = .ok (.aload_n 3, 1) := by decide +kernel
theorem dL_way_1 : decode cL_way 1 = .ok (.iconst 0, 1) := by decide +kernel
theorem dL_way_2 : decode cL_way 2 = .ok (.aload_n 0, 1) := by decide +kernel
theorem dL_way_3 : decode cL_way 3 = .ok (.iload_n 1, 1) := by decide +kernel
theorem dL_way_4 : decode cL_way 4 = .ok (.iload_n 2, 1) := by decide +kernel
theorem dL_way_5 : decode cL_way 5 = .ok (.invokevirtual 39, 3) := by decide +kernel
theorem dL_way_8 : decode cL_way 8 = .ok (.i2l, 1) := by decide +kernel
theorem dL_way_9 : decode cL_way 9 = .ok (.lastore, 1) := by decide +kernel
theorem dL_way_10 : decode cL_way 10 = .ok (.goto 11, 3) := by decide +kernel
theorem dL_way_13 : decode cL_way 13 = .ok (.astore 4, 2) := by decide +kernel
theorem dL_way_15 : decode cL_way 15 = .ok (.iconst 1, 1) := by decide +kernel
theorem dL_way_16 : decode cL_way 16 = .ok (.ireturn, 1) := by decide +kernel
theorem dL_way_17 : decode cL_way 17 = .ok (.astore 4, 2) := by decide +kernel
theorem dL_way_19 : decode cL_way 19 = .ok (.iconst 2, 1) := by decide +kernel
theorem dL_way_20 : decode cL_way 20 = .ok (.ireturn, 1) := by decide +kernel
theorem dL_way_21 : decode cL_way 21 = .ok (.iconst 0, 1) := by decide +kernel
theorem dL_way_22 : decode cL_way 22 = .ok (.ireturn, 1) := by decide +kernel
theorem dL_addRoom_0 : decode cL_addRoom 0 = .ok (.aload 5, 2) := by decide +kernel
theorem dL_addRoom_2 : decode cL_addRoom 2 = .ok (.iconst 0, 1) := by decide +kernel
theorem dL_addRoom_3 : decode cL_addRoom 3 = .ok (.aload_n 0, 1) := by decide +kernel
theorem dL_addRoom_4 : decode cL_addRoom 4 = .ok (.iload_n 1, 1) := by decide +kernel
theorem dL_addRoom_5 : decode cL_addRoom 5 = .ok (.iload_n 2, 1) := by decide +kernel
theorem dL_addRoom_6 : decode cL_addRoom 6 = .ok (.iload_n 3, 1) := by decide +kernel
theorem dL_addRoom_7 : decode cL_addRoom 7 = .ok (.iload 4, 2) := by decide +kernel
theorem dL_addRoom_9 : decode cL_addRoom 9 = .ok (.invokevirtual 42, 3) := by decide +kernel
theorem dL_addRoom_12 : decode cL_addRoom 12 = .ok (.i2l, 1) := by decide +kernel
theorem dL_addRoom_13 : decode cL_addRoom 13 = .ok (.lastore, 1) := by decide +kernel
theorem dL_addRoom_14 : decode cL_addRoom 14 = .ok (.goto 11, 3) := by decide +kernel
theorem dL_addRoom_17 : decode cL_addRoom 17 = .ok (.astore 6, 2) := by decide +kernel
theorem dL_addRoom_19 : decode cL_addRoom 19 = .ok (.iconst 1, 1) := by decide +kernel
theorem dL_addRoom_20 : decode cL_addRoom 20 = .ok (.ireturn, 1) := by decide +kernel
theorem dL_addRoom_21 : decode cL_addRoom 21 = .ok (.astore 6, 2) := by decide +kernel
theorem dL_addRoom_23 : decode cL_addRoom 23 = .ok (.iconst 2, 1) := by decide +kernel
theorem dL_addRoom_24 : decode cL_addRoom 24 = .ok (.ireturn, 1) := by decide +kernel
theorem dL_addRoom_25 : decode cL_addRoom 25 = .ok (.iconst 0, 1) := by decide +kernel
theorem dL_addRoom_26 : decode cL_addRoom 26 = .ok (.ireturn, 1) := by decide +kernel
theorem dL_setRoom_0 : decode cL_setRoom 0 = .ok (.aload 4, 2) := by decide +kernel
theorem dL_setRoom_2 : decode cL_setRoom 2 = .ok (.iconst 0, 1) := by decide +kernel
theorem dL_setRoom_3 : decode cL_setRoom 3 = .ok (.aload_n 0, 1) := by decide +kernel
theorem dL_setRoom_4 : decode cL_setRoom 4 = .ok (.iload_n 1, 1) := by decide +kernel
theorem dL_setRoom_5 : decode cL_setRoom 5 = .ok (.iload_n 2, 1) := by decide +kernel
theorem dL_setRoom_6 : decode cL_setRoom 6 = .ok (.iload_n 3, 1) := by decide +kernel
theorem dL_setRoom_7 : decode cL_setRoom 7 = .ok (.invokevirtual 46, 3) := by decide +kernel
theorem dL_setRoom_10 : decode cL_setRoom 10 = .ok (.i2l, 1) := by decide +kernel
theorem dL_setRoom_11 : decode cL_setRoom 11 = .ok (.lastore, 1) := by decide +kernel
theorem dL_setRoom_12 : decode cL_setRoom 12 = .ok (.goto 11, 3) := by decide +kernel
theorem dL_setRoom_15 : decode cL_setRoom 15 = .ok (.astore 5, 2) := by decide +kernel
theorem dL_setRoom_17 : decode cL_setRoom 17 = .ok (.iconst 1, 1) := by decide +kernel
theorem dL_setRoom_18 : decode cL_setRoom 18 = .ok (.ireturn, 1) := by decide +kernel
theorem dL_setRoom_19 : decode cL_setRoom 19 = .ok (.astore 5, 2) := by decide +kernel
theorem dL_setRoom_21 : decode cL_setRoom 21 = .ok (.iconst 2, 1) := by decide +kernel
theorem dL_setRoom_22 : decode cL_setRoom 22 = .ok (.ireturn, 1) := by decide +kernel
theorem dL_setRoom_23 : decode cL_setRoom 23 = .ok (.iconst 0, 1) := by decide +kernel
theorem dL_setRoom_24 : decode cL_setRoom 24 = .ok (.ireturn, 1) := by decide +kernel
theorem dL_window_0 : decode cL_window 0 = .ok (.aload_n 3, 1) := by decide +kernel
theorem dL_window_1 : decode cL_window 1 = .ok (.iconst 0, 1) := by decide +kernel
theorem dL_window_2 : decode cL_window 2 = .ok (.aload_n 0, 1) := by decide +kernel
theorem dL_window_3 : decode cL_window 3 = .ok (.iload_n 1, 1) := by decide +kernel
theorem dL_window_4 : decode cL_window 4 = .ok (.iload_n 2, 1) := by decide +kernel
theorem dL_window_5 : decode cL_window 5 = .ok (.invokevirtual 50, 3) := by decide +kernel
theorem dL_window_8 : decode cL_window 8 = .ok (.i2l, 1) := by decide +kernel
theorem dL_window_9 : decode cL_window 9 = .ok (.lastore, 1) := by decide +kernel
theorem dL_window_10 : decode cL_window 10 = .ok (.goto 7, 3) := by decide +kernel
theorem dL_window_13 : decode cL_window 13 = .ok (.astore 4, 2) := by decide +kernel
theorem dL_window_15 : decode cL_window 15 = .ok (.iconst 1, 1) := by decide +kernel
theorem dL_window_16 : decode cL_window 16 = .ok (.ireturn, 1) := by decide +kernel
theorem dL_window_17 : decode cL_window 17 = .ok (.iconst 0, 1) := by decide +kernel
theorem dL_window_18 : decode cL_window 18 = .ok (.ireturn, 1) := by decide +kernel
theorem dL_set_0 : decode cL_set 0 = .ok (.aload_n 3, 1) := by decide +kernel
theorem dL_set_1 : decode cL_set 1 = .ok (.iconst 0, 1) := by decide +kernel
theorem dL_set_2 : decode cL_set 2 = .ok (.aload_n 0, 1) := by decide +kernel
theorem dL_set_3 : decode cL_set 3 = .ok (.iload_n 1, 1) := by decide +kernel
theorem dL_set_4 : decode cL_set 4 = .ok (.iload_n 2, 1) := by decide +kernel
theorem dL_set_5 : decode cL_set 5 = .ok (.invokevirtual 54, 3) := by decide +kernel
theorem dL_set_8 : decode cL_set 8 = .ok (.i2l, 1) := by decide +kernel
theorem dL_set_9 : decode cL_set 9 = .ok (.lastore, 1) := by decide +kernel
theorem dL_set_10 : decode cL_set 10 = .ok (.goto 7, 3) := by decide +kernel
theorem dL_set_13 : decode cL_set 13 = .ok (.astore 4, 2) := by decide +kernel
theorem dL_set_15 : decode cL_set 15 = .ok (.iconst 1, 1) := by decide +kernel
theorem dL_set_16 : decode cL_set 16 = .ok (.ireturn, 1) := by decide +kernel
theorem dL_set_17 : decode cL_set 17 = .ok (.iconst 0, 1) := by decide +kernel
theorem dL_set_18 : decode cL_set 18 = .ok (.ireturn, 1) := by decide +kernel
theorem dL_outside_0 : decode cL_outside 0 = .ok (.aload_n 2, 1) := by decide +kernel
theorem dL_outside_1 : decode cL_outside 1 = .ok (.iconst 0, 1) := by decide +kernel
theorem dL_outside_2 : decode cL_outside 2 = .ok (.aload_n 0, 1) := by decide +kernel
theorem dL_outside_3 : decode cL_outside 3 = .ok (.iload_n 1, 1) := by decide +kernel
theorem dL_outside_4 : decode cL_outside 4 = .ok (.invokevirtual 57, 3) := by decide +kernel
theorem dL_outside_7 : decode cL_outside 7 = .ok (.i2l, 1) := by decide +kernel
theorem dL_outside_8 : decode cL_outside 8 = .ok (.lastore, 1) := by decide +kernel
theorem dL_outside_9 : decode cL_outside 9 = .ok (.goto 6, 3) := by decide +kernel
theorem dL_outside_12 : decode cL_outside 12 = .ok (.astore_n 3, 1) := by decide +kernel
theorem dL_outside_13 : decode cL_outside 13 = .ok (.iconst 1, 1) := by decide +kernel
theorem dL_outside_14 : decode cL_outside 14 = .ok (.ireturn, 1) := by decide +kernel
theorem dL_outside_15 : decode cL_outside 15 = .ok (.iconst 0, 1) := by decide +kernel
theorem dL_outside_16 : decode cL_outside 16 = .ok (.ireturn, 1) := by decide +kernel
theorem dL_pass_0 : decode cL_pass 0 = .ok (.aload_n 2, 1) := by decide +kernel
theorem dL_pass_1 : decode cL_pass 1 = .ok (.iconst 0, 1) := by decide +kernel
theorem dL_pass_2 : decode cL_pass 2 = .ok (.aload_n 0, 1) := by decide +kernel
theorem dL_pass_3 : decode cL_pass 3 = .ok (.iload_n 1, 1) := by decide +kernel
theorem dL_pass_4 : decode cL_pass 4 = .ok (.invokevirtual 60, 3) := by decide +kernel
theorem dL_pass_7 : decode cL_pass 7 = .ok (.i2l, 1) := by decide +kernel
theorem dL_pass_8 : decode cL_pass 8 = .ok (.lastore, 1) := by decide +kernel
theorem dL_pass_9 : decode cL_pass 9 = .ok (.goto 6, 3) := by decide +kernel
theorem dL_pass_12 : decode cL_pass 12 = .ok (.astore_n 3, 1) := by decide +kernel
theorem dL_pass_13 : decode cL_pass 13 = .ok (.iconst 1, 1) := by decide +kernel
theorem dL_pass_14 : decode cL_pass 14 = .ok (.ireturn, 1) := by decide +kernel
theorem dL_pass_15 : decode cL_pass 15 = .ok (.iconst 0, 1) := by decide +kernel
theorem dL_pass_16 : decode cL_pass 16 = .ok (.ireturn, 1) := by decide +kernel
theorem dL_undo_0 : decode cL_undo 0 = .ok (.aload_n 1, 1) := by decide +kernel
theorem dL_undo_1 : decode cL_undo 1 = .ok (.iconst 0, 1) := by decide +kernel
theorem dL_undo_2 : decode cL_undo 2 = .ok (.aload_n 0, 1) := by decide +kernel
theorem dL_undo_3 : decode cL_undo 3 = .ok (.invokevirtual 63, 3) := by decide +kernel
theorem dL_undo_6 : decode cL_undo 6 = .ok (.i2l, 1) := by decide +kernel
theorem dL_undo_7 : decode cL_undo 7 = .ok (.lastore, 1) := by decide +kernel
theorem dL_undo_8 : decode cL_undo 8 = .ok (.goto 6, 3) := by decide +kernel
theorem dL_undo_11 : decode cL_undo 11 = .ok (.astore_n 2, 1) := by decide +kernel
theorem dL_undo_12 : decode cL_undo 12 = .ok (.iconst 1, 1) := by decide +kernel
theorem dL_undo_13 : decode cL_undo 13 = .ok (.ireturn, 1) := by decide +kernel
theorem dL_undo_14 : decode cL_undo 14 = .ok (.iconst 0, 1) := by decide +kernel
theorem dL_undo_15 : decode cL_undo 15 = .ok (.ireturn, 1) := by decide +kernel
end
section
theorem dL_ahead_0 : decode cL_ahead 0 = .ok (.aload_n 3, 1) := by decide +kernel
theorem dL_ahead_1 : decode cL_ahead 1 = .ok (.iconst 0, 1) := by decide +kernel
theorem dL_ahead_2 : decode cL_ahead 2 = .ok (.aload_n 0, 1) := by decide +kernel
theorem dL_ahead_3 : decode cL_ahead 3 = .ok (.iload_n 1, 1) := by decide +kernel
theorem dL_ahead_4 : decode cL_ahead 4 = .ok (.iload_n 2, 1) := by decide +kernel
theorem dL_ahead_5 : decode cL_ahead 5 = .ok (.invokevirtual 66, 3) := by decide +kernel
theorem dL_ahead_8 : decode cL_ahead 8 = .ok (.i2l, 1) := by decide +kernel
theorem dL_ahead_9 : decode cL_ahead 9 = .ok (.lastore, 1) := by decide +kernel
theorem dL_ahead_10 : decode cL_ahead 10 = .ok (.goto 11, 3) := by decide +kernel
theorem dL_ahead_13 : decode cL_ahead 13 = .ok (.astore 4, 2) := by decide +kernel
theorem dL_ahead_15 : decode cL_ahead 15 = .ok (.iconst 1, 1) := by decide +kernel
theorem dL_ahead_16 : decode cL_ahead 16 = .ok (.ireturn, 1) := by decide +kernel
theorem dL_ahead_17 : decode cL_ahead 17 = .ok (.astore 4, 2) := by decide +kernel
theorem dL_ahead_19 : decode cL_ahead 19 = .ok (.iconst 2, 1) := by decide +kernel
theorem dL_ahead_20 : decode cL_ahead 20 = .ok (.ireturn, 1) := by decide +kernel
theorem dL_ahead_21 : decode cL_ahead 21 = .ok (.iconst 0, 1) := by decide +kernel
theorem dL_ahead_22 : decode cL_ahead 22 = .ok (.ireturn, 1) := by decide +kernel
theorem dL_minutesTo_0 : decode cL_minutesTo 0 = .ok (.aload_n 2, 1) := by decide +kernel
theorem dL_minutesTo_1 : decode cL_minutesTo 1 = .ok (.iconst 0, 1) := by decide +kernel
theorem dL_minutesTo_2 : decode cL_minutesTo 2 = .ok (.aload_n 0, 1) := by decide +kernel
theorem dL_minutesTo_3 : decode cL_minutesTo 3 = .ok (.iload_n 1, 1) := by decide +kernel
theorem dL_minutesTo_4 : decode cL_minutesTo 4 = .ok (.invokevirtual 69, 3) := by decide +kernel
theorem dL_minutesTo_7 : decode cL_minutesTo 7 = .ok (.i2l, 1) := by decide +kernel
theorem dL_minutesTo_8 : decode cL_minutesTo 8 = .ok (.lastore, 1) := by decide +kernel
theorem dL_minutesTo_9 : decode cL_minutesTo 9 = .ok (.goto 6, 3) := by decide +kernel
theorem dL_minutesTo_12 : decode cL_minutesTo 12 = .ok (.astore_n 3, 1) := by decide +kernel
theorem dL_minutesTo_13 : decode cL_minutesTo 13 = .ok (.iconst 1, 1) := by decide +kernel
theorem dL_minutesTo_14 : decode cL_minutesTo 14 = .ok (.ireturn, 1) := by decide +kernel
theorem dL_minutesTo_15 : decode cL_minutesTo 15 = .ok (.iconst 0, 1) := by decide +kernel
theorem dL_minutesTo_16 : decode cL_minutesTo 16 = .ok (.ireturn, 1) := by decide +kernel
theorem dL_bestSlope_0 : decode cL_bestSlope 0 = .ok (.aload_n 2, 1) := by decide +kernel
theorem dL_bestSlope_1 : decode cL_bestSlope 1 = .ok (.iconst 0, 1) := by decide +kernel
theorem dL_bestSlope_2 : decode cL_bestSlope 2 = .ok (.aload_n 0, 1) := by decide +kernel
theorem dL_bestSlope_3 : decode cL_bestSlope 3 = .ok (.iload_n 1, 1) := by decide +kernel
theorem dL_bestSlope_4 : decode cL_bestSlope 4 = .ok (.invokevirtual 72, 3) := by decide +kernel
theorem dL_bestSlope_7 : decode cL_bestSlope 7 = .ok (.i2l, 1) := by decide +kernel
theorem dL_bestSlope_8 : decode cL_bestSlope 8 = .ok (.lastore, 1) := by decide +kernel
theorem dL_bestSlope_9 : decode cL_bestSlope 9 = .ok (.goto 6, 3) := by decide +kernel
theorem dL_bestSlope_12 : decode cL_bestSlope 12 = .ok (.astore_n 3, 1) := by decide +kernel
theorem dL_bestSlope_13 : decode cL_bestSlope 13 = .ok (.iconst 1, 1) := by decide +kernel
theorem dL_bestSlope_14 : decode cL_bestSlope 14 = .ok (.ireturn, 1) := by decide +kernel
theorem dL_bestSlope_15 : decode cL_bestSlope 15 = .ok (.iconst 0, 1) := by decide +kernel
theorem dL_bestSlope_16 : decode cL_bestSlope 16 = .ok (.ireturn, 1) := by decide +kernel
theorem dL_leastPower_0 : decode cL_leastPower 0 = .ok (.aload_n 2, 1) := by decide +kernel
theorem dL_leastPower_1 : decode cL_leastPower 1 = .ok (.iconst 0, 1) := by decide +kernel
theorem dL_leastPower_2 : decode cL_leastPower 2 = .ok (.aload_n 0, 1) := by decide +kernel
theorem dL_leastPower_3 : decode cL_leastPower 3 = .ok (.iload_n 1, 1) := by decide +kernel
theorem dL_leastPower_4 : decode cL_leastPower 4 = .ok (.invokevirtual 75, 3) := by decide +kernel
theorem dL_leastPower_7 : decode cL_leastPower 7 = .ok (.i2l, 1) := by decide +kernel
theorem dL_leastPower_8 : decode cL_leastPower 8 = .ok (.lastore, 1) := by decide +kernel
theorem dL_leastPower_9 : decode cL_leastPower 9 = .ok (.goto 6, 3) := by decide +kernel
theorem dL_leastPower_12 : decode cL_leastPower 12 = .ok (.astore_n 3, 1) := by decide +kernel
theorem dL_leastPower_13 : decode cL_leastPower 13 = .ok (.iconst 1, 1) := by decide +kernel
theorem dL_leastPower_14 : decode cL_leastPower 14 = .ok (.ireturn, 1) := by decide +kernel
theorem dL_leastPower_15 : decode cL_leastPower 15 = .ok (.iconst 0, 1) := by decide +kernel
theorem dL_leastPower_16 : decode cL_leastPower 16 = .ok (.ireturn, 1) := by decide +kernel
theorem dL_heatFor_0 : decode cL_heatFor 0 = .ok (.aload_n 2, 1) := by decide +kernel
theorem dL_heatFor_1 : decode cL_heatFor 1 = .ok (.iconst 0, 1) := by decide +kernel
theorem dL_heatFor_2 : decode cL_heatFor 2 = .ok (.aload_n 0, 1) := by decide +kernel
theorem dL_heatFor_3 : decode cL_heatFor 3 = .ok (.iload_n 1, 1) := by decide +kernel
theorem dL_heatFor_4 : decode cL_heatFor 4 = .ok (.invokevirtual 78, 3) := by decide +kernel
theorem dL_heatFor_7 : decode cL_heatFor 7 = .ok (.i2l, 1) := by decide +kernel
theorem dL_heatFor_8 : decode cL_heatFor 8 = .ok (.lastore, 1) := by decide +kernel
theorem dL_heatFor_9 : decode cL_heatFor 9 = .ok (.goto 6, 3) := by decide +kernel
theorem dL_heatFor_12 : decode cL_heatFor 12 = .ok (.astore_n 3, 1) := by decide +kernel
theorem dL_heatFor_13 : decode cL_heatFor 13 = .ok (.iconst 1, 1) := by decide +kernel
theorem dL_heatFor_14 : decode cL_heatFor 14 = .ok (.ireturn, 1) := by decide +kernel
theorem dL_heatFor_15 : decode cL_heatFor 15 = .ok (.iconst 0, 1) := by decide +kernel
theorem dL_heatFor_16 : decode cL_heatFor 16 = .ok (.ireturn, 1) := by decide +kernel
theorem dL_runScript_0 : decode cL_runScript 0 = .ok (.aload 4, 2) := by decide +kernel
theorem dL_runScript_2 : decode cL_runScript 2 = .ok (.iconst 0, 1) := by decide +kernel
theorem dL_runScript_3 : decode cL_runScript 3 = .ok (.aload_n 0, 1) := by decide +kernel
theorem dL_runScript_4 : decode cL_runScript 4 = .ok (.iload_n 1, 1) := by decide +kernel
theorem dL_runScript_5 : decode cL_runScript 5 = .ok (.lload_n 2, 1) := by decide +kernel
theorem dL_runScript_6 : decode cL_runScript 6 = .ok (.invokevirtual 81, 3) := by decide +kernel
theorem dL_runScript_9 : decode cL_runScript 9 = .ok (.i2l, 1) := by decide +kernel
theorem dL_runScript_10 : decode cL_runScript 10 = .ok (.lastore, 1) := by decide +kernel
theorem dL_runScript_11 : decode cL_runScript 11 = .ok (.goto 7, 3) := by decide +kernel
theorem dL_runScript_14 : decode cL_runScript 14 = .ok (.astore 5, 2) := by decide +kernel
theorem dL_runScript_16 : decode cL_runScript 16 = .ok (.iconst 1, 1) := by decide +kernel
theorem dL_runScript_17 : decode cL_runScript 17 = .ok (.ireturn, 1) := by decide +kernel
theorem dL_runScript_18 : decode cL_runScript 18 = .ok (.iconst 0, 1) := by decide +kernel
theorem dL_runScript_19 : decode cL_runScript 19 = .ok (.ireturn, 1) := by decide +kernel
theorem dL_simulate_0 : decode cL_simulate 0 = .ok (.aload 4, 2) := by decide +kernel
theorem dL_simulate_2 : decode cL_simulate 2 = .ok (.iconst 0, 1) := by decide +kernel
theorem dL_simulate_3 : decode cL_simulate 3 = .ok (.aload_n 0, 1) := by decide +kernel
theorem dL_simulate_4 : decode cL_simulate 4 = .ok (.lload_n 1, 1) := by decide +kernel
theorem dL_simulate_5 : decode cL_simulate 5 = .ok (.iload_n 3, 1) := by decide +kernel
theorem dL_simulate_6 : decode cL_simulate 6 = .ok (.invokevirtual 85, 3) := by decide +kernel
theorem dL_simulate_9 : decode cL_simulate 9 = .ok (.lastore, 1) := by decide +kernel
theorem dL_simulate_10 : decode cL_simulate 10 = .ok (.goto 7, 3) := by decide +kernel
theorem dL_simulate_13 : decode cL_simulate 13 = .ok (.astore 5, 2) := by decide +kernel
theorem dL_simulate_15 : decode cL_simulate 15 = .ok (.iconst 1, 1) := by decide +kernel
theorem dL_simulate_16 : decode cL_simulate 16 = .ok (.ireturn, 1) := by decide +kernel
theorem dL_simulate_17 : decode cL_simulate 17 = .ok (.iconst 0, 1) := by decide +kernel
theorem dL_simulate_18 : decode cL_simulate 18 = .ok (.ireturn, 1) := by decide +kernel
theorem dL_save_0 : decode cL_save 0 = .ok (.aload_n 2, 1) := by decide +kernel
theorem dL_save_1 : decode cL_save 1 = .ok (.iconst 0, 1) := by decide +kernel
theorem dL_save_2 : decode cL_save 2 = .ok (.aload_n 0, 1) := by decide +kernel
theorem dL_save_3 : decode cL_save 3 = .ok (.iload_n 1, 1) := by decide +kernel
theorem dL_save_4 : decode cL_save 4 = .ok (.invokevirtual 89, 3) := by decide +kernel
theorem dL_save_7 : decode cL_save 7 = .ok (.i2l, 1) := by decide +kernel
theorem dL_save_8 : decode cL_save 8 = .ok (.lastore, 1) := by decide +kernel
theorem dL_save_9 : decode cL_save 9 = .ok (.goto 6, 3) := by decide +kernel
theorem dL_save_12 : decode cL_save 12 = .ok (.astore_n 3, 1) := by decide +kernel
theorem dL_save_13 : decode cL_save 13 = .ok (.iconst 1, 1) := by decide +kernel
theorem dL_save_14 : decode cL_save 14 = .ok (.ireturn, 1) := by decide +kernel
theorem dL_save_15 : decode cL_save 15 = .ok (.iconst 0, 1) := by decide +kernel
theorem dL_save_16 : decode cL_save 16 = .ok (.ireturn, 1) := by decide +kernel
theorem dL_restore_0 : decode cL_restore 0 = .ok (.aload_n 2, 1) := by decide +kernel
theorem dL_restore_1 : decode cL_restore 1 = .ok (.iconst 0, 1) := by decide +kernel
theorem dL_restore_2 : decode cL_restore 2 = .ok (.aload_n 0, 1) := by decide +kernel
theorem dL_restore_3 : decode cL_restore 3 = .ok (.iload_n 1, 1) := by decide +kernel
theorem dL_restore_4 : decode cL_restore 4 = .ok (.invokevirtual 92, 3) := by decide +kernel
theorem dL_restore_7 : decode cL_restore 7 = .ok (.i2l, 1) := by decide +kernel
theorem dL_restore_8 : decode cL_restore 8 = .ok (.lastore, 1) := by decide +kernel
theorem dL_restore_9 : decode cL_restore 9 = .ok (.goto 9, 3) := by decide +kernel
theorem dL_restore_12 : decode cL_restore 12 = .ok (.astore_n 3, 1) := by decide +kernel
theorem dL_restore_13 : decode cL_restore 13 = .ok (.iconst 1, 1) := by decide +kernel
theorem dL_restore_14 : decode cL_restore 14 = .ok (.ireturn, 1) := by decide +kernel
theorem dL_restore_15 : decode cL_restore 15 = .ok (.astore_n 3, 1) := by decide +kernel
theorem dL_restore_16 : decode cL_restore 16 = .ok (.iconst 2, 1) := by decide +kernel
theorem dL_restore_17 : decode cL_restore 17 = .ok (.ireturn, 1) := by decide +kernel
theorem dL_restore_18 : decode cL_restore 18 = .ok (.iconst 0, 1) := by decide +kernel
theorem dL_restore_19 : decode cL_restore 19 = .ok (.ireturn, 1) := by decide +kernel
theorem dL_law_0 : decode cL_law 0 = .ok (.new 8, 3) := by decide +kernel
theorem dL_law_3 : decode cL_law 3 = .ok (.dup, 1) := by decide +kernel
theorem dL_law_4 : decode cL_law 4 = .ok (.invokespecial 95, 3) := by decide +kernel
theorem dL_law_7 : decode cL_law 7 = .ok (.astore_n 1, 1) := by decide +kernel
theorem dL_law_8 : decode cL_law 8 = .ok (.new 96, 3) := by decide +kernel
theorem dL_law_11 : decode cL_law 11 = .ok (.dup, 1) := by decide +kernel
theorem dL_law_12 : decode cL_law 12 = .ok (.invokespecial 98, 3) := by decide +kernel
theorem dL_law_15 : decode cL_law 15 = .ok (.astore_n 2, 1) := by decide +kernel
theorem dL_law_16 : decode cL_law 16 = .ok (.iconst 1, 1) := by decide +kernel
theorem dL_law_17 : decode cL_law 17 = .ok (.newarray .long, 2) := by decide +kernel
theorem dL_law_19 : decode cL_law 19 = .ok (.astore_n 3, 1) := by decide +kernel
theorem dL_law_20 : decode cL_law 20 = .ok (.iconst 0, 1) := by decide +kernel
theorem dL_law_21 : decode cL_law 21 = .ok (.istore 4, 2) := by decide +kernel
theorem dL_law_23 : decode cL_law 23 = .ok (.iload 4, 2) := by decide +kernel
theorem dL_law_25 : decode cL_law 25 = .ok (.aload_n 0, 1) := by decide +kernel
theorem dL_law_26 : decode cL_law 26 = .ok (.arraylength, 1) := by decide +kernel
theorem dL_law_27 : decode cL_law 27 = .ok (.iconst 5, 1) := by decide +kernel
theorem dL_law_28 : decode cL_law 28 = .ok (.isub, 1) := by decide +kernel
theorem dL_law_29 : decode cL_law 29 = .ok (.if_icmp .gt 1760, 3) := by decide +kernel
theorem dL_law_32 : decode cL_law 32 = .ok (.aload_n 0, 1) := by decide +kernel
theorem dL_law_33 : decode cL_law 33 = .ok (.iload 4, 2) := by decide +kernel
theorem dL_law_35 : decode cL_law 35 = .ok (.iaload, 1) := by decide +kernel
theorem dL_law_36 : decode cL_law 36 = .ok (.bipush 31, 2) := by decide +kernel
theorem dL_law_38 : decode cL_law 38 = .ok (.iand, 1) := by decide +kernel
theorem dL_law_39 : decode cL_law 39 = .ok (.tableswitch 1744 0 27 #[125, 181, 194, 207, 251, 307, 363, 431, 499, 567, 635, 727, 807, 891, 959, 1015, 1071, 1115, 1183, 1239, 1252, 1265, 1321, 1377, 1433, 1533, 1632, 1688], 125) := by decide +kernel
theorem dL_law_164 : decode cL_law 164 = .ok (.aload_n 1, 1) := by decide +kernel
theorem dL_law_165 : decode cL_law 165 = .ok (.aload_n 0, 1) := by decide +kernel
theorem dL_law_166 : decode cL_law 166 = .ok (.iload 4, 2) := by decide +kernel
theorem dL_law_168 : decode cL_law 168 = .ok (.iconst 1, 1) := by decide +kernel
theorem dL_law_169 : decode cL_law 169 = .ok (.iadd, 1) := by decide +kernel
theorem dL_law_170 : decode cL_law 170 = .ok (.iaload, 1) := by decide +kernel
theorem dL_law_171 : decode cL_law 171 = .ok (.aload_n 3, 1) := by decide +kernel
theorem dL_law_172 : decode cL_law 172 = .ok (.invokestatic 99, 3) := by decide +kernel
theorem dL_law_175 : decode cL_law 175 = .ok (.istore 5, 2) := by decide +kernel
theorem dL_law_177 : decode cL_law 177 = .ok (.aload_n 2, 1) := by decide +kernel
theorem dL_law_178 : decode cL_law 178 = .ok (.aload_n 0, 1) := by decide +kernel
theorem dL_law_179 : decode cL_law 179 = .ok (.iload 4, 2) := by decide +kernel
theorem dL_law_181 : decode cL_law 181 = .ok (.iconst 1, 1) := by decide +kernel
theorem dL_law_182 : decode cL_law 182 = .ok (.iadd, 1) := by decide +kernel
theorem dL_law_183 : decode cL_law 183 = .ok (.iaload, 1) := by decide +kernel
theorem dL_law_184 : decode cL_law 184 = .ok (.invokevirtual 104, 3) := by decide +kernel
theorem dL_law_187 : decode cL_law 187 = .ok (.istore 6, 2) := by decide +kernel
theorem dL_law_189 : decode cL_law 189 = .ok (.aload_n 2, 1) := by decide +kernel
theorem dL_law_190 : decode cL_law 190 = .ok (.invokevirtual 105, 3) := by decide +kernel
theorem dL_law_193 : decode cL_law 193 = .ok (.iload 5, 2) := by decide +kernel
theorem dL_law_195 : decode cL_law 195 = .ok (.if_icmp .eq 5, 3) := by decide +kernel
theorem dL_law_198 : decode cL_law 198 = .ok (.iconst 0, 1) := by decide +kernel
theorem dL_law_199 : decode cL_law 199 = .ok (.ireturn, 1) := by decide +kernel
theorem dL_law_200 : decode cL_law 200 = .ok (.iload 5, 2) := by decide +kernel
theorem dL_law_202 : decode cL_law 202 = .ok (.ifCond .ne 15, 3) := by decide +kernel
theorem dL_law_205 : decode cL_law 205 = .ok (.aload_n 3, 1) := by decide +kernel
theorem dL_law_206 : decode cL_law 206 = .ok (.iconst 0, 1) := by decide +kernel
theorem dL_law_207 : decode cL_law 207 = .ok (.laload, 1) := by decide +kernel
theorem dL_law_208 : decode cL_law 208 = .ok (.iload 6, 2) := by decide +kernel
theorem dL_law_210 : decode cL_law 210 = .ok (.i2l, 1) := by decide +kernel
theorem dL_law_211 : decode cL_law 211 = .ok (.lcmp, 1) := by decide +kernel
theorem dL_law_212 : decode cL_law 212 = .ok (.ifCond .eq 5, 3) := by decide +kernel
theorem dL_law_215 : decode cL_law 215 = .ok (.iconst 0, 1) := by decide +kernel
theorem dL_law_216 : decode cL_law 216 = .ok (.ireturn, 1) := by decide +kernel
theorem dL_law_217 : decode cL_law 217 = .ok (.goto 1566, 3) := by decide +kernel
theorem dL_law_220 : decode cL_law 220 = .ok (.aload_n 1, 1) := by decide +kernel
theorem dL_law_221 : decode cL_law 221 = .ok (.invokevirtual 108, 3) := by decide +kernel
theorem dL_law_224 : decode cL_law 224 = .ok (.aload_n 2, 1) := by decide +kernel
theorem dL_law_225 : decode cL_law 225 = .ok (.invokevirtual 111, 3) := by decide +kernel
theorem dL_law_228 : decode cL_law 228 = .ok (.if_icmp .eq 1555, 3) := by decide +kernel
theorem dL_law_231 : decode cL_law 231 = .ok (.iconst 0, 1) := by decide +kernel
theorem dL_law_232 : decode cL_law 232 = .ok (.ireturn, 1) := by decide +kernel
theorem dL_law_233 : decode cL_law 233 = .ok (.aload_n 1, 1) := by decide +kernel
theorem dL_law_234 : decode cL_law 234 = .ok (.invokevirtual 112, 3) := by decide +kernel
theorem dL_law_237 : decode cL_law 237 = .ok (.aload_n 2, 1) := by decide +kernel
theorem dL_law_238 : decode cL_law 238 = .ok (.invokevirtual 115, 3) := by decide +kernel
theorem dL_law_241 : decode cL_law 241 = .ok (.if_icmp .eq 1542, 3) := by decide +kernel
theorem dL_law_244 : decode cL_law 244 = .ok (.iconst 0, 1) := by decide +kernel
theorem dL_law_245 : decode cL_law 245 = .ok (.ireturn, 1) := by decide +kernel
theorem dL_law_246 : decode cL_law 246 = .ok (.aload_n 1, 1) := by decide +kernel
theorem dL_law_247 : decode cL_law 247 = .ok (.aload_n 3, 1) := by decide +kernel
theorem dL_law_248 : decode cL_law 248 = .ok (.invokestatic 116, 3) := by decide +kernel
theorem dL_law_251 : decode cL_law 251 = .ok (.istore 5, 2) := by decide +kernel
theorem dL_law_253 : decode cL_law 253 = .ok (.aload_n 2, 1) := by decide +kernel
theorem dL_law_254 : decode cL_law 254 = .ok (.invokevirtual 119, 3) := by decide +kernel
theorem dL_law_257 : decode cL_law 257 = .ok (.istore 6, 2) := by decide +kernel
theorem dL_law_259 : decode cL_law 259 = .ok (.aload_n 2, 1) := by decide +kernel
theorem dL_law_260 : decode cL_law 260 = .ok (.invokevirtual 105, 3) := by decide +kernel
theorem dL_law_263 : decode cL_law 263 = .ok (.iload 5, 2) := by decide +kernel
theorem dL_law_265 : decode cL_law 265 = .ok (.if_icmp .eq 5, 3) := by decide +kernel
theorem dL_law_268 : decode cL_law 268 = .ok (.iconst 0, 1) := by decide +kernel
theorem dL_law_269 : decode cL_law 269 = .ok (.ireturn, 1) := by decide +kernel
theorem dL_law_270 : decode cL_law 270 = .ok (.iload 5, 2) := by decide +kernel
theorem dL_law_272 : decode cL_law 272 = .ok (.ifCond .ne 15, 3) := by decide +kernel
theorem dL_law_275 : decode cL_law 275 = .ok (.aload_n 3, 1) := by decide +kernel
theorem dL_law_276 : decode cL_law 276 = .ok (.iconst 0, 1) := by decide +kernel
theorem dL_law_277 : decode cL_law 277 = .ok (.laload, 1) := by decide +kernel
theorem dL_law_278 : decode cL_law 278 = .ok (.iload 6, 2) := by decide +kernel
theorem dL_law_280 : decode cL_law 280 = .ok (.i2l, 1) := by decide +kernel
theorem dL_law_281 : decode cL_law 281 = .ok (.lcmp, 1) := by decide +kernel
theorem dL_law_282 : decode cL_law 282 = .ok (.ifCond .eq 5, 3) := by decide +kernel
theorem dL_law_285 : decode cL_law 285 = .ok (.iconst 0, 1) := by decide +kernel
theorem dL_law_286 : decode cL_law 286 = .ok (.ireturn, 1) := by decide +kernel
theorem dL_law_287 : decode cL_law 287 = .ok (.goto 1496, 3) := by decide +kernel
theorem dL_law_290 : decode cL_law 290 = .ok (.aload_n 1, 1) := by decide +kernel
theorem dL_law_291 : decode cL_law 291 = .ok (.aload_n 0, 1) := by decide +kernel
theorem dL_law_292 : decode cL_law 292 = .ok (.iload 4, 2) := by decide +kernel
theorem dL_law_294 : decode cL_law 294 = .ok (.iconst 1, 1) := by decide +kernel
theorem dL_law_295 : decode cL_law 295 = .ok (.iadd, 1) := by decide +kernel
theorem dL_law_296 : decode cL_law 296 = .ok (.iaload, 1) := by decide +kernel
theorem dL_law_297 : decode cL_law 297 = .ok (.aload_n 3, 1) := by decide +kernel
theorem dL_law_298 : decode cL_law 298 = .ok (.invokestatic 120, 3) := by decide +kernel
theorem dL_law_301 : decode cL_law 301 = .ok (.istore 5, 2) := by decide +kernel
theorem dL_law_303 : decode cL_law 303 = .ok (.aload_n 2, 1) := by decide +kernel
theorem dL_law_304 : decode cL_law 304 = .ok (.aload_n 0, 1) := by decide +kernel
theorem dL_law_305 : decode cL_law 305 = .ok (.iload 4, 2) := by decide +kernel
theorem dL_law_307 : decode cL_law 307 = .ok (.iconst 1, 1) := by decide +kernel
theorem dL_law_308 : decode cL_law 308 = .ok (.iadd, 1) := by decide +kernel
theorem dL_law_309 : decode cL_law 309 = .ok (.iaload, 1) := by decide +kernel
theorem dL_law_310 : decode cL_law 310 = .ok (.invokevirtual 122, 3) := by decide +kernel
theorem dL_law_313 : decode cL_law 313 = .ok (.istore 6, 2) := by decide +kernel
theorem dL_law_315 : decode cL_law 315 = .ok (.aload_n 2, 1) := by decide +kernel
theorem dL_law_316 : decode cL_law 316 = .ok (.invokevirtual 105, 3) := by decide +kernel
theorem dL_law_319 : decode cL_law 319 = .ok (.iload 5, 2) := by decide +kernel
theorem dL_law_321 : decode cL_law 321 = .ok (.if_icmp .eq 5, 3) := by decide +kernel
theorem dL_law_324 : decode cL_law 324 = .ok (.iconst 0, 1) := by decide +kernel
theorem dL_law_325 : decode cL_law 325 = .ok (.ireturn, 1) := by decide +kernel
theorem dL_law_326 : decode cL_law 326 = .ok (.iload 5, 2) := by decide +kernel
theorem dL_law_328 : decode cL_law 328 = .ok (.ifCond .ne 15, 3) := by decide +kernel
theorem dL_law_331 : decode cL_law 331 = .ok (.aload_n 3, 1) := by decide +kernel
theorem dL_law_332 : decode cL_law 332 = .ok (.iconst 0, 1) := by decide +kernel
theorem dL_law_333 : decode cL_law 333 = .ok (.laload, 1) := by decide +kernel
theorem dL_law_334 : decode cL_law 334 = .ok (.iload 6, 2) := by decide +kernel
theorem dL_law_336 : decode cL_law 336 = .ok (.i2l, 1) := by decide +kernel
theorem dL_law_337 : decode cL_law 337 = .ok (.lcmp, 1) := by decide +kernel
theorem dL_law_338 : decode cL_law 338 = .ok (.ifCond .eq 5, 3) := by decide +kernel
theorem dL_law_341 : decode cL_law 341 = .ok (.iconst 0, 1) := by decide +kernel
theorem dL_law_342 : decode cL_law 342 = .ok (.ireturn, 1) := by decide +kernel
theorem dL_law_343 : decode cL_law 343 = .ok (.goto 1440, 3) := by decide +kernel
theorem dL_law_346 : decode cL_law 346 = .ok (.aload_n 1, 1) := by decide +kernel
theorem dL_law_347 : decode cL_law 347 = .ok (.aload_n 0, 1) := by decide +kernel
theorem dL_law_348 : decode cL_law 348 = .ok (.iload 4, 2) := by decide +kernel
theorem dL_law_350 : decode cL_law 350 = .ok (.iconst 1, 1) := by decide +kernel
theorem dL_law_351 : decode cL_law 351 = .ok (.iadd, 1) := by decide +kernel
theorem dL_law_352 : decode cL_law 352 = .ok (.iaload, 1) := by decide +kernel
theorem dL_law_353 : decode cL_law 353 = .ok (.aload_n 3, 1) := by decide +kernel
theorem dL_law_354 : decode cL_law 354 = .ok (.invokestatic 123, 3) := by decide +kernel
theorem dL_law_357 : decode cL_law 357 = .ok (.istore 5, 2) := by decide +kernel
theorem dL_law_359 : decode cL_law 359 = .ok (.aload_n 2, 1) := by decide +kernel
theorem dL_law_360 : decode cL_law 360 = .ok (.aload_n 0, 1) := by decide +kernel
theorem dL_law_361 : decode cL_law 361 = .ok (.iload 4, 2) := by decide +kernel
theorem dL_law_363 : decode cL_law 363 = .ok (.iconst 1, 1) := by decide +kernel
theorem dL_law_364 : decode cL_law 364 = .ok (.iadd, 1) := by decide +kernel
theorem dL_law_365 : decode cL_law 365 = .ok (.iaload, 1) := by decide +kernel
theorem dL_law_366 : decode cL_law 366 = .ok (.invokevirtual 125, 3) := by decide +kernel
theorem dL_law_369 : decode cL_law 369 = .ok (.istore 6, 2) := by decide +kernel
theorem dL_law_371 : decode cL_law 371 = .ok (.aload_n 2, 1) := by decide +kernel
theorem dL_law_372 : decode cL_law 372 = .ok (.invokevirtual 105, 3) := by decide +kernel
theorem dL_law_375 : decode cL_law 375 = .ok (.iload 5, 2) := by decide +kernel
theorem dL_law_377 : decode cL_law 377 = .ok (.if_icmp .eq 5, 3) := by decide +kernel
theorem dL_law_380 : decode cL_law 380 = .ok (.iconst 0, 1) := by decide +kernel
theorem dL_law_381 : decode cL_law 381 = .ok (.ireturn, 1) := by decide +kernel
theorem dL_law_382 : decode cL_law 382 = .ok (.iload 5, 2) := by decide +kernel
theorem dL_law_384 : decode cL_law 384 = .ok (.ifCond .ne 15, 3) := by decide +kernel
theorem dL_law_387 : decode cL_law 387 = .ok (.aload_n 3, 1) := by decide +kernel
theorem dL_law_388 : decode cL_law 388 = .ok (.iconst 0, 1) := by decide +kernel
theorem dL_law_389 : decode cL_law 389 = .ok (.laload, 1) := by decide +kernel
theorem dL_law_390 : decode cL_law 390 = .ok (.iload 6, 2) := by decide +kernel
theorem dL_law_392 : decode cL_law 392 = .ok (.i2l, 1) := by decide +kernel
theorem dL_law_393 : decode cL_law 393 = .ok (.lcmp, 1) := by decide +kernel
theorem dL_law_394 : decode cL_law 394 = .ok (.ifCond .eq 5, 3) := by decide +kernel
theorem dL_law_397 : decode cL_law 397 = .ok (.iconst 0, 1) := by decide +kernel
theorem dL_law_398 : decode cL_law 398 = .ok (.ireturn, 1) := by decide +kernel
theorem dL_law_399 : decode cL_law 399 = .ok (.goto 1384, 3) := by decide +kernel
theorem dL_law_402 : decode cL_law 402 = .ok (.aload_n 1, 1) := by decide +kernel
theorem dL_law_403 : decode cL_law 403 = .ok (.aload_n 0, 1) := by decide +kernel
theorem dL_law_404 : decode cL_law 404 = .ok (.iload 4, 2) := by decide +kernel
theorem dL_law_406 : decode cL_law 406 = .ok (.iconst 1, 1) := by decide +kernel
theorem dL_law_407 : decode cL_law 407 = .ok (.iadd, 1) := by decide +kernel
theorem dL_law_408 : decode cL_law 408 = .ok (.iaload, 1) := by decide +kernel
theorem dL_law_409 : decode cL_law 409 = .ok (.aload_n 0, 1) := by decide +kernel
theorem dL_law_410 : decode cL_law 410 = .ok (.iload 4, 2) := by decide +kernel
theorem dL_law_412 : decode cL_law 412 = .ok (.iconst 2, 1) := by decide +kernel
theorem dL_law_413 : decode cL_law 413 = .ok (.iadd, 1) := by decide +kernel
theorem dL_law_414 : decode cL_law 414 = .ok (.iaload, 1) := by decide +kernel
theorem dL_law_415 : decode cL_law 415 = .ok (.aload_n 3, 1) := by decide +kernel
theorem dL_law_416 : decode cL_law 416 = .ok (.invokestatic 126, 3) := by decide +kernel
theorem dL_law_419 : decode cL_law 419 = .ok (.istore 5, 2) := by decide +kernel
theorem dL_law_421 : decode cL_law 421 = .ok (.aload_n 2, 1) := by decide +kernel
theorem dL_law_422 : decode cL_law 422 = .ok (.aload_n 0, 1) := by decide +kernel
theorem dL_law_423 : decode cL_law 423 = .ok (.iload 4, 2) := by decide +kernel
theorem dL_law_425 : decode cL_law 425 = .ok (.iconst 1, 1) := by decide +kernel
theorem dL_law_426 : decode cL_law 426 = .ok (.iadd, 1) := by decide +kernel
theorem dL_law_427 : decode cL_law 427 = .ok (.iaload, 1) := by decide +kernel
theorem dL_law_428 : decode cL_law 428 = .ok (.aload_n 0, 1) := by decide +kernel
theorem dL_law_429 : decode cL_law 429 = .ok (.iload 4, 2) := by decide +kernel
theorem dL_law_431 : decode cL_law 431 = .ok (.iconst 2, 1) := by decide +kernel
theorem dL_law_432 : decode cL_law 432 = .ok (.iadd, 1) := by decide +kernel
theorem dL_law_433 : decode cL_law 433 = .ok (.iaload, 1) := by decide +kernel
theorem dL_law_434 : decode cL_law 434 = .ok (.invokevirtual 129, 3) := by decide +kernel
theorem dL_law_437 : decode cL_law 437 = .ok (.istore 6, 2) := by decide +kernel
theorem dL_law_439 : decode cL_law 439 = .ok (.aload_n 2, 1) := by decide +kernel
theorem dL_law_440 : decode cL_law 440 = .ok (.invokevirtual 105, 3) := by decide +kernel
theorem dL_law_443 : decode cL_law 443 = .ok (.iload 5, 2) := by decide +kernel
theorem dL_law_445 : decode cL_law 445 = .ok (.if_icmp .eq 5, 3) := by decide +kernel
theorem dL_law_448 : decode cL_law 448 = .ok (.iconst 0, 1) := by decide +kernel
theorem dL_law_449 : decode cL_law 449 = .ok (.ireturn, 1) := by decide +kernel
theorem dL_law_450 : decode cL_law 450 = .ok (.iload 5, 2) := by decide +kernel
theorem dL_law_452 : decode cL_law 452 = .ok (.ifCond .ne 15, 3) := by decide +kernel
theorem dL_law_455 : decode cL_law 455 = .ok (.aload_n 3, 1) := by decide +kernel
theorem dL_law_456 : decode cL_law 456 = .ok (.iconst 0, 1) := by decide +kernel
theorem dL_law_457 : decode cL_law 457 = .ok (.laload, 1) := by decide +kernel
theorem dL_law_458 : decode cL_law 458 = .ok (.iload 6, 2) := by decide +kernel
theorem dL_law_460 : decode cL_law 460 = .ok (.i2l, 1) := by decide +kernel
theorem dL_law_461 : decode cL_law 461 = .ok (.lcmp, 1) := by decide +kernel
theorem dL_law_462 : decode cL_law 462 = .ok (.ifCond .eq 5, 3) := by decide +kernel
theorem dL_law_465 : decode cL_law 465 = .ok (.iconst 0, 1) := by decide +kernel
theorem dL_law_466 : decode cL_law 466 = .ok (.ireturn, 1) := by decide +kernel
theorem dL_law_467 : decode cL_law 467 = .ok (.goto 1316, 3) := by decide +kernel
theorem dL_law_470 : decode cL_law 470 = .ok (.aload_n 1, 1) := by decide +kernel
theorem dL_law_471 : decode cL_law 471 = .ok (.aload_n 0, 1) := by decide +kernel
theorem dL_law_472 : decode cL_law 472 = .ok (.iload 4, 2) := by decide +kernel
theorem dL_law_474 : decode cL_law 474 = .ok (.iconst 1, 1) := by decide +kernel
theorem dL_law_475 : decode cL_law 475 = .ok (.iadd, 1) := by decide +kernel
theorem dL_law_476 : decode cL_law 476 = .ok (.iaload, 1) := by decide +kernel
theorem dL_law_477 : decode cL_law 477 = .ok (.aload_n 0, 1) := by decide +kernel
theorem dL_law_478 : decode cL_law 478 = .ok (.iload 4, 2) := by decide +kernel
theorem dL_law_480 : decode cL_law 480 = .ok (.iconst 2, 1) := by decide +kernel
theorem dL_law_481 : decode cL_law 481 = .ok (.iadd, 1) := by decide +kernel
theorem dL_law_482 : decode cL_law 482 = .ok (.iaload, 1) := by decide +kernel
theorem dL_law_483 : decode cL_law 483 = .ok (.aload_n 3, 1) := by decide +kernel
theorem dL_law_484 : decode cL_law 484 = .ok (.invokestatic 130, 3) := by decide +kernel
theorem dL_law_487 : decode cL_law 487 = .ok (.istore 5, 2) := by decide +kernel
theorem dL_law_489 : decode cL_law 489 = .ok (.aload_n 2, 1) := by decide +kernel
theorem dL_law_490 : decode cL_law 490 = .ok (.aload_n 0, 1) := by decide +kernel
theorem dL_law_491 : decode cL_law 491 = .ok (.iload 4, 2) := by decide +kernel
theorem dL_law_493 : decode cL_law 493 = .ok (.iconst 1, 1) := by decide +kernel
theorem dL_law_494 : decode cL_law 494 = .ok (.iadd, 1) := by decide +kernel
theorem dL_law_495 : decode cL_law 495 = .ok (.iaload, 1) := by decide +kernel
theorem dL_law_496 : decode cL_law 496 = .ok (.aload_n 0, 1) := by decide +kernel
theorem dL_law_497 : decode cL_law 497 = .ok (.iload 4, 2) := by decide +kernel
theorem dL_law_499 : decode cL_law 499 = .ok (.iconst 2, 1) := by decide +kernel
theorem dL_law_500 : decode cL_law 500 = .ok (.iadd, 1) := by decide +kernel
theorem dL_law_501 : decode cL_law 501 = .ok (.iaload, 1) := by decide +kernel
theorem dL_law_502 : decode cL_law 502 = .ok (.invokevirtual 132, 3) := by decide +kernel
theorem dL_law_505 : decode cL_law 505 = .ok (.istore 6, 2) := by decide +kernel
theorem dL_law_507 : decode cL_law 507 = .ok (.aload_n 2, 1) := by decide +kernel
theorem dL_law_508 : decode cL_law 508 = .ok (.invokevirtual 105, 3) := by decide +kernel
theorem dL_law_511 : decode cL_law 511 = .ok (.iload 5, 2) := by decide +kernel
theorem dL_law_513 : decode cL_law 513 = .ok (.if_icmp .eq 5, 3) := by decide +kernel
theorem dL_law_516 : decode cL_law 516 = .ok (.iconst 0, 1) := by decide +kernel
theorem dL_law_517 : decode cL_law 517 = .ok (.ireturn, 1) := by decide +kernel
theorem dL_law_518 : decode cL_law 518 = .ok (.iload 5, 2) := by decide +kernel
theorem dL_law_520 : decode cL_law 520 = .ok (.ifCond .ne 15, 3) := by decide +kernel
theorem dL_law_523 : decode cL_law 523 = .ok (.aload_n 3, 1) := by decide +kernel
theorem dL_law_524 : decode cL_law 524 = .ok (.iconst 0, 1) := by decide +kernel
theorem dL_law_525 : decode cL_law 525 = .ok (.laload, 1) := by decide +kernel
theorem dL_law_526 : decode cL_law 526 = .ok (.iload 6, 2) := by decide +kernel
theorem dL_law_528 : decode cL_law 528 = .ok (.i2l, 1) := by decide +kernel
theorem dL_law_529 : decode cL_law 529 = .ok (.lcmp, 1) := by decide +kernel
theorem dL_law_530 : decode cL_law 530 = .ok (.ifCond .eq 5, 3) := by decide +kernel
theorem dL_law_533 : decode cL_law 533 = .ok (.iconst 0, 1) := by decide +kernel
theorem dL_law_534 : decode cL_law 534 = .ok (.ireturn, 1) := by decide +kernel
theorem dL_law_535 : decode cL_law 535 = .ok (.goto 1248, 3) := by decide +kernel
theorem dL_law_538 : decode cL_law 538 = .ok (.aload_n 1, 1) := by decide +kernel
theorem dL_law_539 : decode cL_law 539 = .ok (.aload_n 0, 1) := by decide +kernel
theorem dL_law_540 : decode cL_law 540 = .ok (.iload 4, 2) := by decide +kernel
theorem dL_law_542 : decode cL_law 542 = .ok (.iconst 1, 1) := by decide +kernel
theorem dL_law_543 : decode cL_law 543 = .ok (.iadd, 1) := by decide +kernel
theorem dL_law_544 : decode cL_law 544 = .ok (.iaload, 1) := by decide +kernel
theorem dL_law_545 : decode cL_law 545 = .ok (.aload_n 0, 1) := by decide +kernel
theorem dL_law_546 : decode cL_law 546 = .ok (.iload 4, 2) := by decide +kernel
theorem dL_law_548 : decode cL_law 548 = .ok (.iconst 2, 1) := by decide +kernel
theorem dL_law_549 : decode cL_law 549 = .ok (.iadd, 1) := by decide +kernel
theorem dL_law_550 : decode cL_law 550 = .ok (.iaload, 1) := by decide +kernel
theorem dL_law_551 : decode cL_law 551 = .ok (.aload_n 3, 1) := by decide +kernel
theorem dL_law_552 : decode cL_law 552 = .ok (.invokestatic 133, 3) := by decide +kernel
theorem dL_law_555 : decode cL_law 555 = .ok (.istore 5, 2) := by decide +kernel
theorem dL_law_557 : decode cL_law 557 = .ok (.aload_n 2, 1) := by decide +kernel
theorem dL_law_558 : decode cL_law 558 = .ok (.aload_n 0, 1) := by decide +kernel
theorem dL_law_559 : decode cL_law 559 = .ok (.iload 4, 2) := by decide +kernel
theorem dL_law_561 : decode cL_law 561 = .ok (.iconst 1, 1) := by decide +kernel
theorem dL_law_562 : decode cL_law 562 = .ok (.iadd, 1) := by decide +kernel
theorem dL_law_563 : decode cL_law 563 = .ok (.iaload, 1) := by decide +kernel
theorem dL_law_564 : decode cL_law 564 = .ok (.aload_n 0, 1) := by decide +kernel
theorem dL_law_565 : decode cL_law 565 = .ok (.iload 4, 2) := by decide +kernel
theorem dL_law_567 : decode cL_law 567 = .ok (.iconst 2, 1) := by decide +kernel
theorem dL_law_568 : decode cL_law 568 = .ok (.iadd, 1) := by decide +kernel
theorem dL_law_569 : decode cL_law 569 = .ok (.iaload, 1) := by decide +kernel
theorem dL_law_570 : decode cL_law 570 = .ok (.invokevirtual 135, 3) := by decide +kernel
theorem dL_law_573 : decode cL_law 573 = .ok (.istore 6, 2) := by decide +kernel
theorem dL_law_575 : decode cL_law 575 = .ok (.aload_n 2, 1) := by decide +kernel
theorem dL_law_576 : decode cL_law 576 = .ok (.invokevirtual 105, 3) := by decide +kernel
theorem dL_law_579 : decode cL_law 579 = .ok (.iload 5, 2) := by decide +kernel
theorem dL_law_581 : decode cL_law 581 = .ok (.if_icmp .eq 5, 3) := by decide +kernel
theorem dL_law_584 : decode cL_law 584 = .ok (.iconst 0, 1) := by decide +kernel
theorem dL_law_585 : decode cL_law 585 = .ok (.ireturn, 1) := by decide +kernel
theorem dL_law_586 : decode cL_law 586 = .ok (.iload 5, 2) := by decide +kernel
theorem dL_law_588 : decode cL_law 588 = .ok (.ifCond .ne 15, 3) := by decide +kernel
theorem dL_law_591 : decode cL_law 591 = .ok (.aload_n 3, 1) := by decide +kernel
theorem dL_law_592 : decode cL_law 592 = .ok (.iconst 0, 1) := by decide +kernel
theorem dL_law_593 : decode cL_law 593 = .ok (.laload, 1) := by decide +kernel
theorem dL_law_594 : decode cL_law 594 = .ok (.iload 6, 2) := by decide +kernel
theorem dL_law_596 : decode cL_law 596 = .ok (.i2l, 1) := by decide +kernel
theorem dL_law_597 : decode cL_law 597 = .ok (.lcmp, 1) := by decide +kernel
theorem dL_law_598 : decode cL_law 598 = .ok (.ifCond .eq 5, 3) := by decide +kernel
theorem dL_law_601 : decode cL_law 601 = .ok (.iconst 0, 1) := by decide +kernel
theorem dL_law_602 : decode cL_law 602 = .ok (.ireturn, 1) := by decide +kernel
theorem dL_law_603 : decode cL_law 603 = .ok (.goto 1180, 3) := by decide +kernel
theorem dL_law_606 : decode cL_law 606 = .ok (.aload_n 1, 1) := by decide +kernel
theorem dL_law_607 : decode cL_law 607 = .ok (.aload_n 0, 1) := by decide +kernel
theorem dL_law_608 : decode cL_law 608 = .ok (.iload 4, 2) := by decide +kernel
theorem dL_law_610 : decode cL_law 610 = .ok (.iconst 1, 1) := by decide +kernel
theorem dL_law_611 : decode cL_law 611 = .ok (.iadd, 1) := by decide +kernel
theorem dL_law_612 : decode cL_law 612 = .ok (.iaload, 1) := by decide +kernel
theorem dL_law_613 : decode cL_law 613 = .ok (.aload_n 0, 1) := by decide +kernel
theorem dL_law_614 : decode cL_law 614 = .ok (.iload 4, 2) := by decide +kernel
theorem dL_law_616 : decode cL_law 616 = .ok (.iconst 2, 1) := by decide +kernel
theorem dL_law_617 : decode cL_law 617 = .ok (.iadd, 1) := by decide +kernel
theorem dL_law_618 : decode cL_law 618 = .ok (.iaload, 1) := by decide +kernel
theorem dL_law_619 : decode cL_law 619 = .ok (.aload_n 3, 1) := by decide +kernel
theorem dL_law_620 : decode cL_law 620 = .ok (.invokestatic 136, 3) := by decide +kernel
theorem dL_law_623 : decode cL_law 623 = .ok (.istore 5, 2) := by decide +kernel
theorem dL_law_625 : decode cL_law 625 = .ok (.aload_n 2, 1) := by decide +kernel
theorem dL_law_626 : decode cL_law 626 = .ok (.aload_n 0, 1) := by decide +kernel
theorem dL_law_627 : decode cL_law 627 = .ok (.iload 4, 2) := by decide +kernel
theorem dL_law_629 : decode cL_law 629 = .ok (.iconst 1, 1) := by decide +kernel
theorem dL_law_630 : decode cL_law 630 = .ok (.iadd, 1) := by decide +kernel
theorem dL_law_631 : decode cL_law 631 = .ok (.iaload, 1) := by decide +kernel
theorem dL_law_632 : decode cL_law 632 = .ok (.aload_n 0, 1) := by decide +kernel
theorem dL_law_633 : decode cL_law 633 = .ok (.iload 4, 2) := by decide +kernel
theorem dL_law_635 : decode cL_law 635 = .ok (.iconst 2, 1) := by decide +kernel
theorem dL_law_636 : decode cL_law 636 = .ok (.iadd, 1) := by decide +kernel
theorem dL_law_637 : decode cL_law 637 = .ok (.iaload, 1) := by decide +kernel
theorem dL_law_638 : decode cL_law 638 = .ok (.invokevirtual 138, 3) := by decide +kernel
theorem dL_law_641 : decode cL_law 641 = .ok (.istore 6, 2) := by decide +kernel
theorem dL_law_643 : decode cL_law 643 = .ok (.aload_n 2, 1) := by decide +kernel
theorem dL_law_644 : decode cL_law 644 = .ok (.invokevirtual 105, 3) := by decide +kernel
theorem dL_law_647 : decode cL_law 647 = .ok (.iload 5, 2) := by decide +kernel
theorem dL_law_649 : decode cL_law 649 = .ok (.if_icmp .eq 5, 3) := by decide +kernel
theorem dL_law_652 : decode cL_law 652 = .ok (.iconst 0, 1) := by decide +kernel
theorem dL_law_653 : decode cL_law 653 = .ok (.ireturn, 1) := by decide +kernel
theorem dL_law_654 : decode cL_law 654 = .ok (.iload 5, 2) := by decide +kernel
theorem dL_law_656 : decode cL_law 656 = .ok (.ifCond .ne 15, 3) := by decide +kernel
theorem dL_law_659 : decode cL_law 659 = .ok (.aload_n 3, 1) := by decide +kernel
theorem dL_law_660 : decode cL_law 660 = .ok (.iconst 0, 1) := by decide +kernel
theorem dL_law_661 : decode cL_law 661 = .ok (.laload, 1) := by decide +kernel
theorem dL_law_662 : decode cL_law 662 = .ok (.iload 6, 2) := by decide +kernel
theorem dL_law_664 : decode cL_law 664 = .ok (.i2l, 1) := by decide +kernel
theorem dL_law_665 : decode cL_law 665 = .ok (.lcmp, 1) := by decide +kernel
theorem dL_law_666 : decode cL_law 666 = .ok (.ifCond .eq 5, 3) := by decide +kernel
theorem dL_law_669 : decode cL_law 669 = .ok (.iconst 0, 1) := by decide +kernel
theorem dL_law_670 : decode cL_law 670 = .ok (.ireturn, 1) := by decide +kernel
theorem dL_law_671 : decode cL_law 671 = .ok (.goto 1112, 3) := by decide +kernel
theorem dL_law_674 : decode cL_law 674 = .ok (.aload_n 1, 1) := by decide +kernel
theorem dL_law_675 : decode cL_law 675 = .ok (.aload_n 0, 1) := by decide +kernel
theorem dL_law_676 : decode cL_law 676 = .ok (.iload 4, 2) := by decide +kernel
theorem dL_law_678 : decode cL_law 678 = .ok (.iconst 1, 1) := by decide +kernel
theorem dL_law_679 : decode cL_law 679 = .ok (.iadd, 1) := by decide +kernel
theorem dL_law_680 : decode cL_law 680 = .ok (.iaload, 1) := by decide +kernel
theorem dL_law_681 : decode cL_law 681 = .ok (.aload_n 0, 1) := by decide +kernel
theorem dL_law_682 : decode cL_law 682 = .ok (.iload 4, 2) := by decide +kernel
theorem dL_law_684 : decode cL_law 684 = .ok (.iconst 2, 1) := by decide +kernel
theorem dL_law_685 : decode cL_law 685 = .ok (.iadd, 1) := by decide +kernel
theorem dL_law_686 : decode cL_law 686 = .ok (.iaload, 1) := by decide +kernel
theorem dL_law_687 : decode cL_law 687 = .ok (.aload_n 0, 1) := by decide +kernel
theorem dL_law_688 : decode cL_law 688 = .ok (.iload 4, 2) := by decide +kernel
theorem dL_law_690 : decode cL_law 690 = .ok (.iconst 3, 1) := by decide +kernel
theorem dL_law_691 : decode cL_law 691 = .ok (.iadd, 1) := by decide +kernel
theorem dL_law_692 : decode cL_law 692 = .ok (.iaload, 1) := by decide +kernel
theorem dL_law_693 : decode cL_law 693 = .ok (.aload_n 0, 1) := by decide +kernel
theorem dL_law_694 : decode cL_law 694 = .ok (.iload 4, 2) := by decide +kernel
theorem dL_law_696 : decode cL_law 696 = .ok (.iconst 4, 1) := by decide +kernel
theorem dL_law_697 : decode cL_law 697 = .ok (.iadd, 1) := by decide +kernel
theorem dL_law_698 : decode cL_law 698 = .ok (.iaload, 1) := by decide +kernel
theorem dL_law_699 : decode cL_law 699 = .ok (.aload_n 3, 1) := by decide +kernel
theorem dL_law_700 : decode cL_law 700 = .ok (.invokestatic 139, 3) := by decide +kernel
theorem dL_law_703 : decode cL_law 703 = .ok (.istore 5, 2) := by decide +kernel
theorem dL_law_705 : decode cL_law 705 = .ok (.aload_n 2, 1) := by decide +kernel
theorem dL_law_706 : decode cL_law 706 = .ok (.aload_n 0, 1) := by decide +kernel
theorem dL_law_707 : decode cL_law 707 = .ok (.iload 4, 2) := by decide +kernel
theorem dL_law_709 : decode cL_law 709 = .ok (.iconst 1, 1) := by decide +kernel
theorem dL_law_710 : decode cL_law 710 = .ok (.iadd, 1) := by decide +kernel
theorem dL_law_711 : decode cL_law 711 = .ok (.iaload, 1) := by decide +kernel
theorem dL_law_712 : decode cL_law 712 = .ok (.aload_n 0, 1) := by decide +kernel
theorem dL_law_713 : decode cL_law 713 = .ok (.iload 4, 2) := by decide +kernel
theorem dL_law_715 : decode cL_law 715 = .ok (.iconst 2, 1) := by decide +kernel
theorem dL_law_716 : decode cL_law 716 = .ok (.iadd, 1) := by decide +kernel
theorem dL_law_717 : decode cL_law 717 = .ok (.iaload, 1) := by decide +kernel
theorem dL_law_718 : decode cL_law 718 = .ok (.aload_n 0, 1) := by decide +kernel
theorem dL_law_719 : decode cL_law 719 = .ok (.iload 4, 2) := by decide +kernel
theorem dL_law_721 : decode cL_law 721 = .ok (.iconst 3, 1) := by decide +kernel
theorem dL_law_722 : decode cL_law 722 = .ok (.iadd, 1) := by decide +kernel
theorem dL_law_723 : decode cL_law 723 = .ok (.iaload, 1) := by decide +kernel
theorem dL_law_724 : decode cL_law 724 = .ok (.aload_n 0, 1) := by decide +kernel
theorem dL_law_725 : decode cL_law 725 = .ok (.iload 4, 2) := by decide +kernel
theorem dL_law_727 : decode cL_law 727 = .ok (.iconst 4, 1) := by decide +kernel
theorem dL_law_728 : decode cL_law 728 = .ok (.iadd, 1) := by decide +kernel
theorem dL_law_729 : decode cL_law 729 = .ok (.iaload, 1) := by decide +kernel
theorem dL_law_730 : decode cL_law 730 = .ok (.invokevirtual 142, 3) := by decide +kernel
theorem dL_law_733 : decode cL_law 733 = .ok (.istore 6, 2) := by decide +kernel
theorem dL_law_735 : decode cL_law 735 = .ok (.aload_n 2, 1) := by decide +kernel
theorem dL_law_736 : decode cL_law 736 = .ok (.invokevirtual 105, 3) := by decide +kernel
theorem dL_law_739 : decode cL_law 739 = .ok (.iload 5, 2) := by decide +kernel
theorem dL_law_741 : decode cL_law 741 = .ok (.if_icmp .eq 5, 3) := by decide +kernel
theorem dL_law_744 : decode cL_law 744 = .ok (.iconst 0, 1) := by decide +kernel
theorem dL_law_745 : decode cL_law 745 = .ok (.ireturn, 1) := by decide +kernel
theorem dL_law_746 : decode cL_law 746 = .ok (.iload 5, 2) := by decide +kernel
theorem dL_law_748 : decode cL_law 748 = .ok (.ifCond .ne 15, 3) := by decide +kernel
theorem dL_law_751 : decode cL_law 751 = .ok (.aload_n 3, 1) := by decide +kernel
theorem dL_law_752 : decode cL_law 752 = .ok (.iconst 0, 1) := by decide +kernel
theorem dL_law_753 : decode cL_law 753 = .ok (.laload, 1) := by decide +kernel
theorem dL_law_754 : decode cL_law 754 = .ok (.iload 6, 2) := by decide +kernel
theorem dL_law_756 : decode cL_law 756 = .ok (.i2l, 1) := by decide +kernel
theorem dL_law_757 : decode cL_law 757 = .ok (.lcmp, 1) := by decide +kernel
theorem dL_law_758 : decode cL_law 758 = .ok (.ifCond .eq 5, 3) := by decide +kernel
theorem dL_law_761 : decode cL_law 761 = .ok (.iconst 0, 1) := by decide +kernel
theorem dL_law_762 : decode cL_law 762 = .ok (.ireturn, 1) := by decide +kernel
theorem dL_law_763 : decode cL_law 763 = .ok (.goto 1020, 3) := by decide +kernel
theorem dL_law_766 : decode cL_law 766 = .ok (.aload_n 1, 1) := by decide +kernel
theorem dL_law_767 : decode cL_law 767 = .ok (.aload_n 0, 1) := by decide +kernel
theorem dL_law_768 : decode cL_law 768 = .ok (.iload 4, 2) := by decide +kernel
theorem dL_law_770 : decode cL_law 770 = .ok (.iconst 1, 1) := by decide +kernel
theorem dL_law_771 : decode cL_law 771 = .ok (.iadd, 1) := by decide +kernel
theorem dL_law_772 : decode cL_law 772 = .ok (.iaload, 1) := by decide +kernel
theorem dL_law_773 : decode cL_law 773 = .ok (.aload_n 0, 1) := by decide +kernel
theorem dL_law_774 : decode cL_law 774 = .ok (.iload 4, 2) := by decide +kernel
theorem dL_law_776 : decode cL_law 776 = .ok (.iconst 2, 1) := by decide +kernel
theorem dL_law_777 : decode cL_law 777 = .ok (.iadd, 1) := by decide +kernel
theorem dL_law_778 : decode cL_law 778 = .ok (.iaload, 1) := by decide +kernel
theorem dL_law_779 : decode cL_law 779 = .ok (.aload_n 0, 1) := by decide +kernel
theorem dL_law_780 : decode cL_law 780 = .ok (.iload 4, 2) := by decide +kernel
theorem dL_law_782 : decode cL_law 782 = .ok (.iconst 3, 1) := by decide +kernel
theorem dL_law_783 : decode cL_law 783 = .ok (.iadd, 1) := by decide +kernel
theorem dL_law_784 : decode cL_law 784 = .ok (.iaload, 1) := by decide +kernel
theorem dL_law_785 : decode cL_law 785 = .ok (.aload_n 3, 1) := by decide +kernel
theorem dL_law_786 : decode cL_law 786 = .ok (.invokestatic 143, 3) := by decide +kernel
theorem dL_law_789 : decode cL_law 789 = .ok (.istore 5, 2) := by decide +kernel
theorem dL_law_791 : decode cL_law 791 = .ok (.aload_n 2, 1) := by decide +kernel
theorem dL_law_792 : decode cL_law 792 = .ok (.aload_n 0, 1) := by decide +kernel
theorem dL_law_793 : decode cL_law 793 = .ok (.iload 4, 2) := by decide +kernel
theorem dL_law_795 : decode cL_law 795 = .ok (.iconst 1, 1) := by decide +kernel
theorem dL_law_796 : decode cL_law 796 = .ok (.iadd, 1) := by decide +kernel
theorem dL_law_797 : decode cL_law 797 = .ok (.iaload, 1) := by decide +kernel
theorem dL_law_798 : decode cL_law 798 = .ok (.aload_n 0, 1) := by decide +kernel
theorem dL_law_799 : decode cL_law 799 = .ok (.iload 4, 2) := by decide +kernel
theorem dL_law_801 : decode cL_law 801 = .ok (.iconst 2, 1) := by decide +kernel
theorem dL_law_802 : decode cL_law 802 = .ok (.iadd, 1) := by decide +kernel
theorem dL_law_803 : decode cL_law 803 = .ok (.iaload, 1) := by decide +kernel
theorem dL_law_804 : decode cL_law 804 = .ok (.aload_n 0, 1) := by decide +kernel
theorem dL_law_805 : decode cL_law 805 = .ok (.iload 4, 2) := by decide +kernel
theorem dL_law_807 : decode cL_law 807 = .ok (.iconst 3, 1) := by decide +kernel
theorem dL_law_808 : decode cL_law 808 = .ok (.iadd, 1) := by decide +kernel
theorem dL_law_809 : decode cL_law 809 = .ok (.iaload, 1) := by decide +kernel
theorem dL_law_810 : decode cL_law 810 = .ok (.invokevirtual 146, 3) := by decide +kernel
theorem dL_law_813 : decode cL_law 813 = .ok (.istore 6, 2) := by decide +kernel
theorem dL_law_815 : decode cL_law 815 = .ok (.aload_n 2, 1) := by decide +kernel
theorem dL_law_816 : decode cL_law 816 = .ok (.invokevirtual 105, 3) := by decide +kernel
theorem dL_law_819 : decode cL_law 819 = .ok (.iload 5, 2) := by decide +kernel
theorem dL_law_821 : decode cL_law 821 = .ok (.if_icmp .eq 5, 3) := by decide +kernel
theorem dL_law_824 : decode cL_law 824 = .ok (.iconst 0, 1) := by decide +kernel
theorem dL_law_825 : decode cL_law 825 = .ok (.ireturn, 1) := by decide +kernel
theorem dL_law_826 : decode cL_law 826 = .ok (.iload 5, 2) := by decide +kernel
theorem dL_law_828 : decode cL_law 828 = .ok (.ifCond .ne 15, 3) := by decide +kernel
theorem dL_law_831 : decode cL_law 831 = .ok (.aload_n 3, 1) := by decide +kernel
theorem dL_law_832 : decode cL_law 832 = .ok (.iconst 0, 1) := by decide +kernel
theorem dL_law_833 : decode cL_law 833 = .ok (.laload, 1) := by decide +kernel
theorem dL_law_834 : decode cL_law 834 = .ok (.iload 6, 2) := by decide +kernel
theorem dL_law_836 : decode cL_law 836 = .ok (.i2l, 1) := by decide +kernel
theorem dL_law_837 : decode cL_law 837 = .ok (.lcmp, 1) := by decide +kernel
theorem dL_law_838 : decode cL_law 838 = .ok (.ifCond .eq 5, 3) := by decide +kernel
theorem dL_law_841 : decode cL_law 841 = .ok (.iconst 0, 1) := by decide +kernel
theorem dL_law_842 : decode cL_law 842 = .ok (.ireturn, 1) := by decide +kernel
theorem dL_law_843 : decode cL_law 843 = .ok (.goto 940, 3) := by decide +kernel
theorem dL_law_846 : decode cL_law 846 = .ok (.aload_n 1, 1) := by decide +kernel
theorem dL_law_847 : decode cL_law 847 = .ok (.aload_n 0, 1) := by decide +kernel
theorem dL_law_848 : decode cL_law 848 = .ok (.iload 4, 2) := by decide +kernel
theorem dL_law_850 : decode cL_law 850 = .ok (.iconst 1, 1) := by decide +kernel
theorem dL_law_851 : decode cL_law 851 = .ok (.iadd, 1) := by decide +kernel
theorem dL_law_852 : decode cL_law 852 = .ok (.iaload, 1) := by decide +kernel
theorem dL_law_853 : decode cL_law 853 = .ok (.aload_n 0, 1) := by decide +kernel
theorem dL_law_854 : decode cL_law 854 = .ok (.iload 4, 2) := by decide +kernel
theorem dL_law_856 : decode cL_law 856 = .ok (.iconst 2, 1) := by decide +kernel
theorem dL_law_857 : decode cL_law 857 = .ok (.iadd, 1) := by decide +kernel
theorem dL_law_858 : decode cL_law 858 = .ok (.iaload, 1) := by decide +kernel
theorem dL_law_859 : decode cL_law 859 = .ok (.ifCond .eq 7, 3) := by decide +kernel
theorem dL_law_862 : decode cL_law 862 = .ok (.iconst 1, 1) := by decide +kernel
theorem dL_law_863 : decode cL_law 863 = .ok (.goto 4, 3) := by decide +kernel
theorem dL_law_866 : decode cL_law 866 = .ok (.iconst 0, 1) := by decide +kernel
theorem dL_law_867 : decode cL_law 867 = .ok (.aload_n 3, 1) := by decide +kernel
theorem dL_law_868 : decode cL_law 868 = .ok (.invokestatic 147, 3) := by decide +kernel
theorem dL_law_871 : decode cL_law 871 = .ok (.istore 5, 2) := by decide +kernel
theorem dL_law_873 : decode cL_law 873 = .ok (.aload_n 2, 1) := by decide +kernel
theorem dL_law_874 : decode cL_law 874 = .ok (.aload_n 0, 1) := by decide +kernel
theorem dL_law_875 : decode cL_law 875 = .ok (.iload 4, 2) := by decide +kernel
theorem dL_law_877 : decode cL_law 877 = .ok (.iconst 1, 1) := by decide +kernel
theorem dL_law_878 : decode cL_law 878 = .ok (.iadd, 1) := by decide +kernel
theorem dL_law_879 : decode cL_law 879 = .ok (.iaload, 1) := by decide +kernel
theorem dL_law_880 : decode cL_law 880 = .ok (.aload_n 0, 1) := by decide +kernel
theorem dL_law_881 : decode cL_law 881 = .ok (.iload 4, 2) := by decide +kernel
theorem dL_law_883 : decode cL_law 883 = .ok (.iconst 2, 1) := by decide +kernel
theorem dL_law_884 : decode cL_law 884 = .ok (.iadd, 1) := by decide +kernel
theorem dL_law_885 : decode cL_law 885 = .ok (.iaload, 1) := by decide +kernel
theorem dL_law_886 : decode cL_law 886 = .ok (.ifCond .eq 7, 3) := by decide +kernel
theorem dL_law_889 : decode cL_law 889 = .ok (.iconst 1, 1) := by decide +kernel
theorem dL_law_890 : decode cL_law 890 = .ok (.goto 4, 3) := by decide +kernel
theorem dL_law_893 : decode cL_law 893 = .ok (.iconst 0, 1) := by decide +kernel
theorem dL_law_894 : decode cL_law 894 = .ok (.invokevirtual 150, 3) := by decide +kernel
theorem dL_law_897 : decode cL_law 897 = .ok (.istore 6, 2) := by decide +kernel
theorem dL_law_899 : decode cL_law 899 = .ok (.aload_n 2, 1) := by decide +kernel
theorem dL_law_900 : decode cL_law 900 = .ok (.invokevirtual 105, 3) := by decide +kernel
theorem dL_law_903 : decode cL_law 903 = .ok (.iload 5, 2) := by decide +kernel
theorem dL_law_905 : decode cL_law 905 = .ok (.if_icmp .eq 5, 3) := by decide +kernel
theorem dL_law_908 : decode cL_law 908 = .ok (.iconst 0, 1) := by decide +kernel
theorem dL_law_909 : decode cL_law 909 = .ok (.ireturn, 1) := by decide +kernel
theorem dL_law_910 : decode cL_law 910 = .ok (.iload 5, 2) := by decide +kernel
theorem dL_law_912 : decode cL_law 912 = .ok (.ifCond .ne 15, 3) := by decide +kernel
theorem dL_law_915 : decode cL_law 915 = .ok (.aload_n 3, 1) := by decide +kernel
theorem dL_law_916 : decode cL_law 916 = .ok (.iconst 0, 1) := by decide +kernel
theorem dL_law_917 : decode cL_law 917 = .ok (.laload, 1) := by decide +kernel
theorem dL_law_918 : decode cL_law 918 = .ok (.iload 6, 2) := by decide +kernel
theorem dL_law_920 : decode cL_law 920 = .ok (.i2l, 1) := by decide +kernel
theorem dL_law_921 : decode cL_law 921 = .ok (.lcmp, 1) := by decide +kernel
theorem dL_law_922 : decode cL_law 922 = .ok (.ifCond .eq 5, 3) := by decide +kernel
theorem dL_law_925 : decode cL_law 925 = .ok (.iconst 0, 1) := by decide +kernel
theorem dL_law_926 : decode cL_law 926 = .ok (.ireturn, 1) := by decide +kernel
theorem dL_law_927 : decode cL_law 927 = .ok (.goto 856, 3) := by decide +kernel
theorem dL_law_930 : decode cL_law 930 = .ok (.aload_n 1, 1) := by decide +kernel
theorem dL_law_931 : decode cL_law 931 = .ok (.aload_n 0, 1) := by decide +kernel
theorem dL_law_932 : decode cL_law 932 = .ok (.iload 4, 2) := by decide +kernel
theorem dL_law_934 : decode cL_law 934 = .ok (.iconst 1, 1) := by decide +kernel
theorem dL_law_935 : decode cL_law 935 = .ok (.iadd, 1) := by decide +kernel
theorem dL_law_936 : decode cL_law 936 = .ok (.iaload, 1) := by decide +kernel
theorem dL_law_937 : decode cL_law 937 = .ok (.aload_n 0, 1) := by decide +kernel
theorem dL_law_938 : decode cL_law 938 = .ok (.iload 4, 2) := by decide +kernel
theorem dL_law_940 : decode cL_law 940 = .ok (.iconst 2, 1) := by decide +kernel
theorem dL_law_941 : decode cL_law 941 = .ok (.iadd, 1) := by decide +kernel
theorem dL_law_942 : decode cL_law 942 = .ok (.iaload, 1) := by decide +kernel
theorem dL_law_943 : decode cL_law 943 = .ok (.aload_n 3, 1) := by decide +kernel
theorem dL_law_944 : decode cL_law 944 = .ok (.invokestatic 151, 3) := by decide +kernel
theorem dL_law_947 : decode cL_law 947 = .ok (.istore 5, 2) := by decide +kernel
theorem dL_law_949 : decode cL_law 949 = .ok (.aload_n 2, 1) := by decide +kernel
theorem dL_law_950 : decode cL_law 950 = .ok (.aload_n 0, 1) := by decide +kernel
theorem dL_law_951 : decode cL_law 951 = .ok (.iload 4, 2) := by decide +kernel
theorem dL_law_953 : decode cL_law 953 = .ok (.iconst 1, 1) := by decide +kernel
theorem dL_law_954 : decode cL_law 954 = .ok (.iadd, 1) := by decide +kernel
theorem dL_law_955 : decode cL_law 955 = .ok (.iaload, 1) := by decide +kernel
theorem dL_law_956 : decode cL_law 956 = .ok (.aload_n 0, 1) := by decide +kernel
theorem dL_law_957 : decode cL_law 957 = .ok (.iload 4, 2) := by decide +kernel
theorem dL_law_959 : decode cL_law 959 = .ok (.iconst 2, 1) := by decide +kernel
theorem dL_law_960 : decode cL_law 960 = .ok (.iadd, 1) := by decide +kernel
theorem dL_law_961 : decode cL_law 961 = .ok (.iaload, 1) := by decide +kernel
theorem dL_law_962 : decode cL_law 962 = .ok (.invokevirtual 153, 3) := by decide +kernel
theorem dL_law_965 : decode cL_law 965 = .ok (.istore 6, 2) := by decide +kernel
theorem dL_law_967 : decode cL_law 967 = .ok (.aload_n 2, 1) := by decide +kernel
theorem dL_law_968 : decode cL_law 968 = .ok (.invokevirtual 105, 3) := by decide +kernel
theorem dL_law_971 : decode cL_law 971 = .ok (.iload 5, 2) := by decide +kernel
theorem dL_law_973 : decode cL_law 973 = .ok (.if_icmp .eq 5, 3) := by decide +kernel
theorem dL_law_976 : decode cL_law 976 = .ok (.iconst 0, 1) := by decide +kernel
theorem dL_law_977 : decode cL_law 977 = .ok (.ireturn, 1) := by decide +kernel
theorem dL_law_978 : decode cL_law 978 = .ok (.iload 5, 2) := by decide +kernel
theorem dL_law_980 : decode cL_law 980 = .ok (.ifCond .ne 15, 3) := by decide +kernel
theorem dL_law_983 : decode cL_law 983 = .ok (.aload_n 3, 1) := by decide +kernel
theorem dL_law_984 : decode cL_law 984 = .ok (.iconst 0, 1) := by decide +kernel
theorem dL_law_985 : decode cL_law 985 = .ok (.laload, 1) := by decide +kernel
theorem dL_law_986 : decode cL_law 986 = .ok (.iload 6, 2) := by decide +kernel
theorem dL_law_988 : decode cL_law 988 = .ok (.i2l, 1) := by decide +kernel
theorem dL_law_989 : decode cL_law 989 = .ok (.lcmp, 1) := by decide +kernel
theorem dL_law_990 : decode cL_law 990 = .ok (.ifCond .eq 5, 3) := by decide +kernel
theorem dL_law_993 : decode cL_law 993 = .ok (.iconst 0, 1) := by decide +kernel
theorem dL_law_994 : decode cL_law 994 = .ok (.ireturn, 1) := by decide +kernel
theorem dL_law_995 : decode cL_law 995 = .ok (.goto 788, 3) := by decide +kernel
theorem dL_law_998 : decode cL_law 998 = .ok (.aload_n 1, 1) := by decide +kernel
theorem dL_law_999 : decode cL_law 999 = .ok (.aload_n 0, 1) := by decide +kernel
theorem dL_law_1000 : decode cL_law 1000 = .ok (.iload 4, 2) := by decide +kernel
theorem dL_law_1002 : decode cL_law 1002 = .ok (.iconst 1, 1) := by decide +kernel
theorem dL_law_1003 : decode cL_law 1003 = .ok (.iadd, 1) := by decide +kernel
theorem dL_law_1004 : decode cL_law 1004 = .ok (.iaload, 1) := by decide +kernel
theorem dL_law_1005 : decode cL_law 1005 = .ok (.aload_n 3, 1) := by decide +kernel
theorem dL_law_1006 : decode cL_law 1006 = .ok (.invokestatic 154, 3) := by decide +kernel
theorem dL_law_1009 : decode cL_law 1009 = .ok (.istore 5, 2) := by decide +kernel
theorem dL_law_1011 : decode cL_law 1011 = .ok (.aload_n 2, 1) := by decide +kernel
theorem dL_law_1012 : decode cL_law 1012 = .ok (.aload_n 0, 1) := by decide +kernel
theorem dL_law_1013 : decode cL_law 1013 = .ok (.iload 4, 2) := by decide +kernel
theorem dL_law_1015 : decode cL_law 1015 = .ok (.iconst 1, 1) := by decide +kernel
theorem dL_law_1016 : decode cL_law 1016 = .ok (.iadd, 1) := by decide +kernel
theorem dL_law_1017 : decode cL_law 1017 = .ok (.iaload, 1) := by decide +kernel
theorem dL_law_1018 : decode cL_law 1018 = .ok (.invokevirtual 156, 3) := by decide +kernel
theorem dL_law_1021 : decode cL_law 1021 = .ok (.istore 6, 2) := by decide +kernel
theorem dL_law_1023 : decode cL_law 1023 = .ok (.aload_n 2, 1) := by decide +kernel
theorem dL_law_1024 : decode cL_law 1024 = .ok (.invokevirtual 105, 3) := by decide +kernel
theorem dL_law_1027 : decode cL_law 1027 = .ok (.iload 5, 2) := by decide +kernel
theorem dL_law_1029 : decode cL_law 1029 = .ok (.if_icmp .eq 5, 3) := by decide +kernel
theorem dL_law_1032 : decode cL_law 1032 = .ok (.iconst 0, 1) := by decide +kernel
theorem dL_law_1033 : decode cL_law 1033 = .ok (.ireturn, 1) := by decide +kernel
theorem dL_law_1034 : decode cL_law 1034 = .ok (.iload 5, 2) := by decide +kernel
theorem dL_law_1036 : decode cL_law 1036 = .ok (.ifCond .ne 15, 3) := by decide +kernel
theorem dL_law_1039 : decode cL_law 1039 = .ok (.aload_n 3, 1) := by decide +kernel
theorem dL_law_1040 : decode cL_law 1040 = .ok (.iconst 0, 1) := by decide +kernel
theorem dL_law_1041 : decode cL_law 1041 = .ok (.laload, 1) := by decide +kernel
theorem dL_law_1042 : decode cL_law 1042 = .ok (.iload 6, 2) := by decide +kernel
theorem dL_law_1044 : decode cL_law 1044 = .ok (.i2l, 1) := by decide +kernel
theorem dL_law_1045 : decode cL_law 1045 = .ok (.lcmp, 1) := by decide +kernel
theorem dL_law_1046 : decode cL_law 1046 = .ok (.ifCond .eq 5, 3) := by decide +kernel
theorem dL_law_1049 : decode cL_law 1049 = .ok (.iconst 0, 1) := by decide +kernel
theorem dL_law_1050 : decode cL_law 1050 = .ok (.ireturn, 1) := by decide +kernel
theorem dL_law_1051 : decode cL_law 1051 = .ok (.goto 732, 3) := by decide +kernel
theorem dL_law_1054 : decode cL_law 1054 = .ok (.aload_n 1, 1) := by decide +kernel
theorem dL_law_1055 : decode cL_law 1055 = .ok (.aload_n 0, 1) := by decide +kernel
theorem dL_law_1056 : decode cL_law 1056 = .ok (.iload 4, 2) := by decide +kernel
theorem dL_law_1058 : decode cL_law 1058 = .ok (.iconst 1, 1) := by decide +kernel
theorem dL_law_1059 : decode cL_law 1059 = .ok (.iadd, 1) := by decide +kernel
theorem dL_law_1060 : decode cL_law 1060 = .ok (.iaload, 1) := by decide +kernel
theorem dL_law_1061 : decode cL_law 1061 = .ok (.aload_n 3, 1) := by decide +kernel
theorem dL_law_1062 : decode cL_law 1062 = .ok (.invokestatic 157, 3) := by decide +kernel
theorem dL_law_1065 : decode cL_law 1065 = .ok (.istore 5, 2) := by decide +kernel
theorem dL_law_1067 : decode cL_law 1067 = .ok (.aload_n 2, 1) := by decide +kernel
theorem dL_law_1068 : decode cL_law 1068 = .ok (.aload_n 0, 1) := by decide +kernel
theorem dL_law_1069 : decode cL_law 1069 = .ok (.iload 4, 2) := by decide +kernel
theorem dL_law_1071 : decode cL_law 1071 = .ok (.iconst 1, 1) := by decide +kernel
theorem dL_law_1072 : decode cL_law 1072 = .ok (.iadd, 1) := by decide +kernel
theorem dL_law_1073 : decode cL_law 1073 = .ok (.iaload, 1) := by decide +kernel
theorem dL_law_1074 : decode cL_law 1074 = .ok (.invokevirtual 159, 3) := by decide +kernel
theorem dL_law_1077 : decode cL_law 1077 = .ok (.istore 6, 2) := by decide +kernel
theorem dL_law_1079 : decode cL_law 1079 = .ok (.aload_n 2, 1) := by decide +kernel
theorem dL_law_1080 : decode cL_law 1080 = .ok (.invokevirtual 105, 3) := by decide +kernel
theorem dL_law_1083 : decode cL_law 1083 = .ok (.iload 5, 2) := by decide +kernel
theorem dL_law_1085 : decode cL_law 1085 = .ok (.if_icmp .eq 5, 3) := by decide +kernel
theorem dL_law_1088 : decode cL_law 1088 = .ok (.iconst 0, 1) := by decide +kernel
theorem dL_law_1089 : decode cL_law 1089 = .ok (.ireturn, 1) := by decide +kernel
theorem dL_law_1090 : decode cL_law 1090 = .ok (.iload 5, 2) := by decide +kernel
theorem dL_law_1092 : decode cL_law 1092 = .ok (.ifCond .ne 15, 3) := by decide +kernel
theorem dL_law_1095 : decode cL_law 1095 = .ok (.aload_n 3, 1) := by decide +kernel
theorem dL_law_1096 : decode cL_law 1096 = .ok (.iconst 0, 1) := by decide +kernel
theorem dL_law_1097 : decode cL_law 1097 = .ok (.laload, 1) := by decide +kernel
theorem dL_law_1098 : decode cL_law 1098 = .ok (.iload 6, 2) := by decide +kernel
theorem dL_law_1100 : decode cL_law 1100 = .ok (.i2l, 1) := by decide +kernel
theorem dL_law_1101 : decode cL_law 1101 = .ok (.lcmp, 1) := by decide +kernel
theorem dL_law_1102 : decode cL_law 1102 = .ok (.ifCond .eq 5, 3) := by decide +kernel
theorem dL_law_1105 : decode cL_law 1105 = .ok (.iconst 0, 1) := by decide +kernel
theorem dL_law_1106 : decode cL_law 1106 = .ok (.ireturn, 1) := by decide +kernel
theorem dL_law_1107 : decode cL_law 1107 = .ok (.goto 676, 3) := by decide +kernel
theorem dL_law_1110 : decode cL_law 1110 = .ok (.aload_n 1, 1) := by decide +kernel
theorem dL_law_1111 : decode cL_law 1111 = .ok (.aload_n 3, 1) := by decide +kernel
theorem dL_law_1112 : decode cL_law 1112 = .ok (.invokestatic 160, 3) := by decide +kernel
theorem dL_law_1115 : decode cL_law 1115 = .ok (.istore 5, 2) := by decide +kernel
theorem dL_law_1117 : decode cL_law 1117 = .ok (.aload_n 2, 1) := by decide +kernel
theorem dL_law_1118 : decode cL_law 1118 = .ok (.invokevirtual 162, 3) := by decide +kernel
theorem dL_law_1121 : decode cL_law 1121 = .ok (.istore 6, 2) := by decide +kernel
theorem dL_law_1123 : decode cL_law 1123 = .ok (.aload_n 2, 1) := by decide +kernel
theorem dL_law_1124 : decode cL_law 1124 = .ok (.invokevirtual 105, 3) := by decide +kernel
theorem dL_law_1127 : decode cL_law 1127 = .ok (.iload 5, 2) := by decide +kernel
theorem dL_law_1129 : decode cL_law 1129 = .ok (.if_icmp .eq 5, 3) := by decide +kernel
theorem dL_law_1132 : decode cL_law 1132 = .ok (.iconst 0, 1) := by decide +kernel
theorem dL_law_1133 : decode cL_law 1133 = .ok (.ireturn, 1) := by decide +kernel
theorem dL_law_1134 : decode cL_law 1134 = .ok (.iload 5, 2) := by decide +kernel
theorem dL_law_1136 : decode cL_law 1136 = .ok (.ifCond .ne 15, 3) := by decide +kernel
theorem dL_law_1139 : decode cL_law 1139 = .ok (.aload_n 3, 1) := by decide +kernel
theorem dL_law_1140 : decode cL_law 1140 = .ok (.iconst 0, 1) := by decide +kernel
theorem dL_law_1141 : decode cL_law 1141 = .ok (.laload, 1) := by decide +kernel
theorem dL_law_1142 : decode cL_law 1142 = .ok (.iload 6, 2) := by decide +kernel
theorem dL_law_1144 : decode cL_law 1144 = .ok (.i2l, 1) := by decide +kernel
theorem dL_law_1145 : decode cL_law 1145 = .ok (.lcmp, 1) := by decide +kernel
theorem dL_law_1146 : decode cL_law 1146 = .ok (.ifCond .eq 5, 3) := by decide +kernel
theorem dL_law_1149 : decode cL_law 1149 = .ok (.iconst 0, 1) := by decide +kernel
theorem dL_law_1150 : decode cL_law 1150 = .ok (.ireturn, 1) := by decide +kernel
theorem dL_law_1151 : decode cL_law 1151 = .ok (.goto 632, 3) := by decide +kernel
theorem dL_law_1154 : decode cL_law 1154 = .ok (.aload_n 1, 1) := by decide +kernel
theorem dL_law_1155 : decode cL_law 1155 = .ok (.aload_n 0, 1) := by decide +kernel
theorem dL_law_1156 : decode cL_law 1156 = .ok (.iload 4, 2) := by decide +kernel
theorem dL_law_1158 : decode cL_law 1158 = .ok (.iconst 1, 1) := by decide +kernel
theorem dL_law_1159 : decode cL_law 1159 = .ok (.iadd, 1) := by decide +kernel
theorem dL_law_1160 : decode cL_law 1160 = .ok (.iaload, 1) := by decide +kernel
theorem dL_law_1161 : decode cL_law 1161 = .ok (.aload_n 0, 1) := by decide +kernel
theorem dL_law_1162 : decode cL_law 1162 = .ok (.iload 4, 2) := by decide +kernel
theorem dL_law_1164 : decode cL_law 1164 = .ok (.iconst 2, 1) := by decide +kernel
theorem dL_law_1165 : decode cL_law 1165 = .ok (.iadd, 1) := by decide +kernel
theorem dL_law_1166 : decode cL_law 1166 = .ok (.iaload, 1) := by decide +kernel
theorem dL_law_1167 : decode cL_law 1167 = .ok (.aload_n 3, 1) := by decide +kernel
theorem dL_law_1168 : decode cL_law 1168 = .ok (.invokestatic 163, 3) := by decide +kernel
theorem dL_law_1171 : decode cL_law 1171 = .ok (.istore 5, 2) := by decide +kernel
theorem dL_law_1173 : decode cL_law 1173 = .ok (.aload_n 2, 1) := by decide +kernel
theorem dL_law_1174 : decode cL_law 1174 = .ok (.aload_n 0, 1) := by decide +kernel
theorem dL_law_1175 : decode cL_law 1175 = .ok (.iload 4, 2) := by decide +kernel
theorem dL_law_1177 : decode cL_law 1177 = .ok (.iconst 1, 1) := by decide +kernel
theorem dL_law_1178 : decode cL_law 1178 = .ok (.iadd, 1) := by decide +kernel
theorem dL_law_1179 : decode cL_law 1179 = .ok (.iaload, 1) := by decide +kernel
theorem dL_law_1180 : decode cL_law 1180 = .ok (.aload_n 0, 1) := by decide +kernel
theorem dL_law_1181 : decode cL_law 1181 = .ok (.iload 4, 2) := by decide +kernel
theorem dL_law_1183 : decode cL_law 1183 = .ok (.iconst 2, 1) := by decide +kernel
theorem dL_law_1184 : decode cL_law 1184 = .ok (.iadd, 1) := by decide +kernel
theorem dL_law_1185 : decode cL_law 1185 = .ok (.iaload, 1) := by decide +kernel
theorem dL_law_1186 : decode cL_law 1186 = .ok (.invokevirtual 165, 3) := by decide +kernel
theorem dL_law_1189 : decode cL_law 1189 = .ok (.istore 6, 2) := by decide +kernel
theorem dL_law_1191 : decode cL_law 1191 = .ok (.aload_n 2, 1) := by decide +kernel
theorem dL_law_1192 : decode cL_law 1192 = .ok (.invokevirtual 105, 3) := by decide +kernel
theorem dL_law_1195 : decode cL_law 1195 = .ok (.iload 5, 2) := by decide +kernel
theorem dL_law_1197 : decode cL_law 1197 = .ok (.if_icmp .eq 5, 3) := by decide +kernel
theorem dL_law_1200 : decode cL_law 1200 = .ok (.iconst 0, 1) := by decide +kernel
theorem dL_law_1201 : decode cL_law 1201 = .ok (.ireturn, 1) := by decide +kernel
theorem dL_law_1202 : decode cL_law 1202 = .ok (.iload 5, 2) := by decide +kernel
theorem dL_law_1204 : decode cL_law 1204 = .ok (.ifCond .ne 15, 3) := by decide +kernel
theorem dL_law_1207 : decode cL_law 1207 = .ok (.aload_n 3, 1) := by decide +kernel
theorem dL_law_1208 : decode cL_law 1208 = .ok (.iconst 0, 1) := by decide +kernel
theorem dL_law_1209 : decode cL_law 1209 = .ok (.laload, 1) := by decide +kernel
theorem dL_law_1210 : decode cL_law 1210 = .ok (.iload 6, 2) := by decide +kernel
theorem dL_law_1212 : decode cL_law 1212 = .ok (.i2l, 1) := by decide +kernel
theorem dL_law_1213 : decode cL_law 1213 = .ok (.lcmp, 1) := by decide +kernel
theorem dL_law_1214 : decode cL_law 1214 = .ok (.ifCond .eq 5, 3) := by decide +kernel
theorem dL_law_1217 : decode cL_law 1217 = .ok (.iconst 0, 1) := by decide +kernel
theorem dL_law_1218 : decode cL_law 1218 = .ok (.ireturn, 1) := by decide +kernel
theorem dL_law_1219 : decode cL_law 1219 = .ok (.goto 564, 3) := by decide +kernel
theorem dL_law_1222 : decode cL_law 1222 = .ok (.aload_n 1, 1) := by decide +kernel
theorem dL_law_1223 : decode cL_law 1223 = .ok (.aload_n 0, 1) := by decide +kernel
theorem dL_law_1224 : decode cL_law 1224 = .ok (.iload 4, 2) := by decide +kernel
theorem dL_law_1226 : decode cL_law 1226 = .ok (.iconst 1, 1) := by decide +kernel
theorem dL_law_1227 : decode cL_law 1227 = .ok (.iadd, 1) := by decide +kernel
theorem dL_law_1228 : decode cL_law 1228 = .ok (.iaload, 1) := by decide +kernel
theorem dL_law_1229 : decode cL_law 1229 = .ok (.aload_n 3, 1) := by decide +kernel
theorem dL_law_1230 : decode cL_law 1230 = .ok (.invokestatic 166, 3) := by decide +kernel
theorem dL_law_1233 : decode cL_law 1233 = .ok (.istore 5, 2) := by decide +kernel
theorem dL_law_1235 : decode cL_law 1235 = .ok (.aload_n 2, 1) := by decide +kernel
theorem dL_law_1236 : decode cL_law 1236 = .ok (.aload_n 0, 1) := by decide +kernel
theorem dL_law_1237 : decode cL_law 1237 = .ok (.iload 4, 2) := by decide +kernel
theorem dL_law_1239 : decode cL_law 1239 = .ok (.iconst 1, 1) := by decide +kernel
theorem dL_law_1240 : decode cL_law 1240 = .ok (.iadd, 1) := by decide +kernel
theorem dL_law_1241 : decode cL_law 1241 = .ok (.iaload, 1) := by decide +kernel
theorem dL_law_1242 : decode cL_law 1242 = .ok (.invokevirtual 168, 3) := by decide +kernel
theorem dL_law_1245 : decode cL_law 1245 = .ok (.istore 6, 2) := by decide +kernel
theorem dL_law_1247 : decode cL_law 1247 = .ok (.aload_n 2, 1) := by decide +kernel
theorem dL_law_1248 : decode cL_law 1248 = .ok (.invokevirtual 105, 3) := by decide +kernel
theorem dL_law_1251 : decode cL_law 1251 = .ok (.iload 5, 2) := by decide +kernel
theorem dL_law_1253 : decode cL_law 1253 = .ok (.if_icmp .eq 5, 3) := by decide +kernel
theorem dL_law_1256 : decode cL_law 1256 = .ok (.iconst 0, 1) := by decide +kernel
theorem dL_law_1257 : decode cL_law 1257 = .ok (.ireturn, 1) := by decide +kernel
theorem dL_law_1258 : decode cL_law 1258 = .ok (.iload 5, 2) := by decide +kernel
theorem dL_law_1260 : decode cL_law 1260 = .ok (.ifCond .ne 15, 3) := by decide +kernel
theorem dL_law_1263 : decode cL_law 1263 = .ok (.aload_n 3, 1) := by decide +kernel
theorem dL_law_1264 : decode cL_law 1264 = .ok (.iconst 0, 1) := by decide +kernel
theorem dL_law_1265 : decode cL_law 1265 = .ok (.laload, 1) := by decide +kernel
theorem dL_law_1266 : decode cL_law 1266 = .ok (.iload 6, 2) := by decide +kernel
theorem dL_law_1268 : decode cL_law 1268 = .ok (.i2l, 1) := by decide +kernel
theorem dL_law_1269 : decode cL_law 1269 = .ok (.lcmp, 1) := by decide +kernel
theorem dL_law_1270 : decode cL_law 1270 = .ok (.ifCond .eq 5, 3) := by decide +kernel
theorem dL_law_1273 : decode cL_law 1273 = .ok (.iconst 0, 1) := by decide +kernel
theorem dL_law_1274 : decode cL_law 1274 = .ok (.ireturn, 1) := by decide +kernel
theorem dL_law_1275 : decode cL_law 1275 = .ok (.goto 508, 3) := by decide +kernel
theorem dL_law_1278 : decode cL_law 1278 = .ok (.aload_n 1, 1) := by decide +kernel
theorem dL_law_1279 : decode cL_law 1279 = .ok (.invokevirtual 169, 3) := by decide +kernel
theorem dL_law_1282 : decode cL_law 1282 = .ok (.aload_n 2, 1) := by decide +kernel
theorem dL_law_1283 : decode cL_law 1283 = .ok (.invokevirtual 172, 3) := by decide +kernel
theorem dL_law_1286 : decode cL_law 1286 = .ok (.if_icmp .eq 497, 3) := by decide +kernel
theorem dL_law_1289 : decode cL_law 1289 = .ok (.iconst 0, 1) := by decide +kernel
theorem dL_law_1290 : decode cL_law 1290 = .ok (.ireturn, 1) := by decide +kernel
theorem dL_law_1291 : decode cL_law 1291 = .ok (.aload_n 1, 1) := by decide +kernel
theorem dL_law_1292 : decode cL_law 1292 = .ok (.invokevirtual 173, 3) := by decide +kernel
theorem dL_law_1295 : decode cL_law 1295 = .ok (.aload_n 2, 1) := by decide +kernel
theorem dL_law_1296 : decode cL_law 1296 = .ok (.invokevirtual 176, 3) := by decide +kernel
theorem dL_law_1299 : decode cL_law 1299 = .ok (.if_icmp .eq 484, 3) := by decide +kernel
theorem dL_law_1302 : decode cL_law 1302 = .ok (.iconst 0, 1) := by decide +kernel
theorem dL_law_1303 : decode cL_law 1303 = .ok (.ireturn, 1) := by decide +kernel
theorem dL_law_1304 : decode cL_law 1304 = .ok (.aload_n 1, 1) := by decide +kernel
theorem dL_law_1305 : decode cL_law 1305 = .ok (.aload_n 0, 1) := by decide +kernel
theorem dL_law_1306 : decode cL_law 1306 = .ok (.iload 4, 2) := by decide +kernel
theorem dL_law_1308 : decode cL_law 1308 = .ok (.iconst 1, 1) := by decide +kernel
theorem dL_law_1309 : decode cL_law 1309 = .ok (.iadd, 1) := by decide +kernel
theorem dL_law_1310 : decode cL_law 1310 = .ok (.iaload, 1) := by decide +kernel
theorem dL_law_1311 : decode cL_law 1311 = .ok (.aload_n 3, 1) := by decide +kernel
theorem dL_law_1312 : decode cL_law 1312 = .ok (.invokestatic 177, 3) := by decide +kernel
theorem dL_law_1315 : decode cL_law 1315 = .ok (.istore 5, 2) := by decide +kernel
theorem dL_law_1317 : decode cL_law 1317 = .ok (.aload_n 2, 1) := by decide +kernel
theorem dL_law_1318 : decode cL_law 1318 = .ok (.aload_n 0, 1) := by decide +kernel
theorem dL_law_1319 : decode cL_law 1319 = .ok (.iload 4, 2) := by decide +kernel
theorem dL_law_1321 : decode cL_law 1321 = .ok (.iconst 1, 1) := by decide +kernel
theorem dL_law_1322 : decode cL_law 1322 = .ok (.iadd, 1) := by decide +kernel
theorem dL_law_1323 : decode cL_law 1323 = .ok (.iaload, 1) := by decide +kernel
theorem dL_law_1324 : decode cL_law 1324 = .ok (.invokevirtual 179, 3) := by decide +kernel
theorem dL_law_1327 : decode cL_law 1327 = .ok (.istore 6, 2) := by decide +kernel
theorem dL_law_1329 : decode cL_law 1329 = .ok (.aload_n 2, 1) := by decide +kernel
theorem dL_law_1330 : decode cL_law 1330 = .ok (.invokevirtual 105, 3) := by decide +kernel
theorem dL_law_1333 : decode cL_law 1333 = .ok (.iload 5, 2) := by decide +kernel
theorem dL_law_1335 : decode cL_law 1335 = .ok (.if_icmp .eq 5, 3) := by decide +kernel
theorem dL_law_1338 : decode cL_law 1338 = .ok (.iconst 0, 1) := by decide +kernel
theorem dL_law_1339 : decode cL_law 1339 = .ok (.ireturn, 1) := by decide +kernel
theorem dL_law_1340 : decode cL_law 1340 = .ok (.iload 5, 2) := by decide +kernel
theorem dL_law_1342 : decode cL_law 1342 = .ok (.ifCond .ne 15, 3) := by decide +kernel
theorem dL_law_1345 : decode cL_law 1345 = .ok (.aload_n 3, 1) := by decide +kernel
theorem dL_law_1346 : decode cL_law 1346 = .ok (.iconst 0, 1) := by decide +kernel
theorem dL_law_1347 : decode cL_law 1347 = .ok (.laload, 1) := by decide +kernel
theorem dL_law_1348 : decode cL_law 1348 = .ok (.iload 6, 2) := by decide +kernel
theorem dL_law_1350 : decode cL_law 1350 = .ok (.i2l, 1) := by decide +kernel
theorem dL_law_1351 : decode cL_law 1351 = .ok (.lcmp, 1) := by decide +kernel
theorem dL_law_1352 : decode cL_law 1352 = .ok (.ifCond .eq 5, 3) := by decide +kernel
theorem dL_law_1355 : decode cL_law 1355 = .ok (.iconst 0, 1) := by decide +kernel
theorem dL_law_1356 : decode cL_law 1356 = .ok (.ireturn, 1) := by decide +kernel
theorem dL_law_1357 : decode cL_law 1357 = .ok (.goto 426, 3) := by decide +kernel
theorem dL_law_1360 : decode cL_law 1360 = .ok (.aload_n 1, 1) := by decide +kernel
theorem dL_law_1361 : decode cL_law 1361 = .ok (.aload_n 0, 1) := by decide +kernel
theorem dL_law_1362 : decode cL_law 1362 = .ok (.iload 4, 2) := by decide +kernel
theorem dL_law_1364 : decode cL_law 1364 = .ok (.iconst 1, 1) := by decide +kernel
theorem dL_law_1365 : decode cL_law 1365 = .ok (.iadd, 1) := by decide +kernel
theorem dL_law_1366 : decode cL_law 1366 = .ok (.iaload, 1) := by decide +kernel
theorem dL_law_1367 : decode cL_law 1367 = .ok (.aload_n 3, 1) := by decide +kernel
theorem dL_law_1368 : decode cL_law 1368 = .ok (.invokestatic 180, 3) := by decide +kernel
theorem dL_law_1371 : decode cL_law 1371 = .ok (.istore 5, 2) := by decide +kernel
theorem dL_law_1373 : decode cL_law 1373 = .ok (.aload_n 2, 1) := by decide +kernel
theorem dL_law_1374 : decode cL_law 1374 = .ok (.aload_n 0, 1) := by decide +kernel
theorem dL_law_1375 : decode cL_law 1375 = .ok (.iload 4, 2) := by decide +kernel
theorem dL_law_1377 : decode cL_law 1377 = .ok (.iconst 1, 1) := by decide +kernel
theorem dL_law_1378 : decode cL_law 1378 = .ok (.iadd, 1) := by decide +kernel
theorem dL_law_1379 : decode cL_law 1379 = .ok (.iaload, 1) := by decide +kernel
theorem dL_law_1380 : decode cL_law 1380 = .ok (.invokevirtual 182, 3) := by decide +kernel
theorem dL_law_1383 : decode cL_law 1383 = .ok (.istore 6, 2) := by decide +kernel
theorem dL_law_1385 : decode cL_law 1385 = .ok (.aload_n 2, 1) := by decide +kernel
theorem dL_law_1386 : decode cL_law 1386 = .ok (.invokevirtual 105, 3) := by decide +kernel
theorem dL_law_1389 : decode cL_law 1389 = .ok (.iload 5, 2) := by decide +kernel
theorem dL_law_1391 : decode cL_law 1391 = .ok (.if_icmp .eq 5, 3) := by decide +kernel
theorem dL_law_1394 : decode cL_law 1394 = .ok (.iconst 0, 1) := by decide +kernel
theorem dL_law_1395 : decode cL_law 1395 = .ok (.ireturn, 1) := by decide +kernel
theorem dL_law_1396 : decode cL_law 1396 = .ok (.iload 5, 2) := by decide +kernel
theorem dL_law_1398 : decode cL_law 1398 = .ok (.ifCond .ne 15, 3) := by decide +kernel
theorem dL_law_1401 : decode cL_law 1401 = .ok (.aload_n 3, 1) := by decide +kernel
theorem dL_law_1402 : decode cL_law 1402 = .ok (.iconst 0, 1) := by decide +kernel
theorem dL_law_1403 : decode cL_law 1403 = .ok (.laload, 1) := by decide +kernel
theorem dL_law_1404 : decode cL_law 1404 = .ok (.iload 6, 2) := by decide +kernel
theorem dL_law_1406 : decode cL_law 1406 = .ok (.i2l, 1) := by decide +kernel
theorem dL_law_1407 : decode cL_law 1407 = .ok (.lcmp, 1) := by decide +kernel
theorem dL_law_1408 : decode cL_law 1408 = .ok (.ifCond .eq 5, 3) := by decide +kernel
theorem dL_law_1411 : decode cL_law 1411 = .ok (.iconst 0, 1) := by decide +kernel
theorem dL_law_1412 : decode cL_law 1412 = .ok (.ireturn, 1) := by decide +kernel
theorem dL_law_1413 : decode cL_law 1413 = .ok (.goto 370, 3) := by decide +kernel
theorem dL_law_1416 : decode cL_law 1416 = .ok (.aload_n 1, 1) := by decide +kernel
theorem dL_law_1417 : decode cL_law 1417 = .ok (.aload_n 0, 1) := by decide +kernel
theorem dL_law_1418 : decode cL_law 1418 = .ok (.iload 4, 2) := by decide +kernel
theorem dL_law_1420 : decode cL_law 1420 = .ok (.iconst 1, 1) := by decide +kernel
theorem dL_law_1421 : decode cL_law 1421 = .ok (.iadd, 1) := by decide +kernel
theorem dL_law_1422 : decode cL_law 1422 = .ok (.iaload, 1) := by decide +kernel
theorem dL_law_1423 : decode cL_law 1423 = .ok (.aload_n 3, 1) := by decide +kernel
theorem dL_law_1424 : decode cL_law 1424 = .ok (.invokestatic 183, 3) := by decide +kernel
theorem dL_law_1427 : decode cL_law 1427 = .ok (.istore 5, 2) := by decide +kernel
theorem dL_law_1429 : decode cL_law 1429 = .ok (.aload_n 2, 1) := by decide +kernel
theorem dL_law_1430 : decode cL_law 1430 = .ok (.aload_n 0, 1) := by decide +kernel
theorem dL_law_1431 : decode cL_law 1431 = .ok (.iload 4, 2) := by decide +kernel
theorem dL_law_1433 : decode cL_law 1433 = .ok (.iconst 1, 1) := by decide +kernel
theorem dL_law_1434 : decode cL_law 1434 = .ok (.iadd, 1) := by decide +kernel
theorem dL_law_1435 : decode cL_law 1435 = .ok (.iaload, 1) := by decide +kernel
theorem dL_law_1436 : decode cL_law 1436 = .ok (.invokevirtual 185, 3) := by decide +kernel
theorem dL_law_1439 : decode cL_law 1439 = .ok (.istore 6, 2) := by decide +kernel
theorem dL_law_1441 : decode cL_law 1441 = .ok (.aload_n 2, 1) := by decide +kernel
theorem dL_law_1442 : decode cL_law 1442 = .ok (.invokevirtual 105, 3) := by decide +kernel
theorem dL_law_1445 : decode cL_law 1445 = .ok (.iload 5, 2) := by decide +kernel
theorem dL_law_1447 : decode cL_law 1447 = .ok (.if_icmp .eq 5, 3) := by decide +kernel
theorem dL_law_1450 : decode cL_law 1450 = .ok (.iconst 0, 1) := by decide +kernel
theorem dL_law_1451 : decode cL_law 1451 = .ok (.ireturn, 1) := by decide +kernel
theorem dL_law_1452 : decode cL_law 1452 = .ok (.iload 5, 2) := by decide +kernel
theorem dL_law_1454 : decode cL_law 1454 = .ok (.ifCond .ne 15, 3) := by decide +kernel
theorem dL_law_1457 : decode cL_law 1457 = .ok (.aload_n 3, 1) := by decide +kernel
theorem dL_law_1458 : decode cL_law 1458 = .ok (.iconst 0, 1) := by decide +kernel
theorem dL_law_1459 : decode cL_law 1459 = .ok (.laload, 1) := by decide +kernel
theorem dL_law_1460 : decode cL_law 1460 = .ok (.iload 6, 2) := by decide +kernel
theorem dL_law_1462 : decode cL_law 1462 = .ok (.i2l, 1) := by decide +kernel
theorem dL_law_1463 : decode cL_law 1463 = .ok (.lcmp, 1) := by decide +kernel
theorem dL_law_1464 : decode cL_law 1464 = .ok (.ifCond .eq 5, 3) := by decide +kernel
theorem dL_law_1467 : decode cL_law 1467 = .ok (.iconst 0, 1) := by decide +kernel
theorem dL_law_1468 : decode cL_law 1468 = .ok (.ireturn, 1) := by decide +kernel
theorem dL_law_1469 : decode cL_law 1469 = .ok (.goto 314, 3) := by decide +kernel
theorem dL_law_1472 : decode cL_law 1472 = .ok (.aload_n 1, 1) := by decide +kernel
theorem dL_law_1473 : decode cL_law 1473 = .ok (.aload_n 0, 1) := by decide +kernel
theorem dL_law_1474 : decode cL_law 1474 = .ok (.iload 4, 2) := by decide +kernel
theorem dL_law_1476 : decode cL_law 1476 = .ok (.iconst 1, 1) := by decide +kernel
theorem dL_law_1477 : decode cL_law 1477 = .ok (.iadd, 1) := by decide +kernel
theorem dL_law_1478 : decode cL_law 1478 = .ok (.iaload, 1) := by decide +kernel
theorem dL_law_1479 : decode cL_law 1479 = .ok (.aload_n 0, 1) := by decide +kernel
theorem dL_law_1480 : decode cL_law 1480 = .ok (.iload 4, 2) := by decide +kernel
theorem dL_law_1482 : decode cL_law 1482 = .ok (.iconst 2, 1) := by decide +kernel
theorem dL_law_1483 : decode cL_law 1483 = .ok (.iadd, 1) := by decide +kernel
theorem dL_law_1484 : decode cL_law 1484 = .ok (.iaload, 1) := by decide +kernel
theorem dL_law_1485 : decode cL_law 1485 = .ok (.i2l, 1) := by decide +kernel
theorem dL_law_1486 : decode cL_law 1486 = .ok (.bipush 32, 2) := by decide +kernel
theorem dL_law_1488 : decode cL_law 1488 = .ok (.lshl, 1) := by decide +kernel
theorem dL_law_1489 : decode cL_law 1489 = .ok (.aload_n 0, 1) := by decide +kernel
theorem dL_law_1490 : decode cL_law 1490 = .ok (.iload 4, 2) := by decide +kernel
theorem dL_law_1492 : decode cL_law 1492 = .ok (.iconst 3, 1) := by decide +kernel
theorem dL_law_1493 : decode cL_law 1493 = .ok (.iadd, 1) := by decide +kernel
theorem dL_law_1494 : decode cL_law 1494 = .ok (.iaload, 1) := by decide +kernel
theorem dL_law_1495 : decode cL_law 1495 = .ok (.i2l, 1) := by decide +kernel
theorem dL_law_1496 : decode cL_law 1496 = .ok (.ldc2_w 186, 3) := by decide +kernel
theorem dL_law_1499 : decode cL_law 1499 = .ok (.land, 1) := by decide +kernel
theorem dL_law_1500 : decode cL_law 1500 = .ok (.lor, 1) := by decide +kernel
theorem dL_law_1501 : decode cL_law 1501 = .ok (.aload_n 3, 1) := by decide +kernel
theorem dL_law_1502 : decode cL_law 1502 = .ok (.invokestatic 188, 3) := by decide +kernel
theorem dL_law_1505 : decode cL_law 1505 = .ok (.istore 5, 2) := by decide +kernel
theorem dL_law_1507 : decode cL_law 1507 = .ok (.aload_n 2, 1) := by decide +kernel
theorem dL_law_1508 : decode cL_law 1508 = .ok (.aload_n 0, 1) := by decide +kernel
theorem dL_law_1509 : decode cL_law 1509 = .ok (.iload 4, 2) := by decide +kernel
theorem dL_law_1511 : decode cL_law 1511 = .ok (.iconst 1, 1) := by decide +kernel
theorem dL_law_1512 : decode cL_law 1512 = .ok (.iadd, 1) := by decide +kernel
theorem dL_law_1513 : decode cL_law 1513 = .ok (.iaload, 1) := by decide +kernel
theorem dL_law_1514 : decode cL_law 1514 = .ok (.aload_n 0, 1) := by decide +kernel
theorem dL_law_1515 : decode cL_law 1515 = .ok (.iload 4, 2) := by decide +kernel
theorem dL_law_1517 : decode cL_law 1517 = .ok (.iconst 2, 1) := by decide +kernel
theorem dL_law_1518 : decode cL_law 1518 = .ok (.iadd, 1) := by decide +kernel
theorem dL_law_1519 : decode cL_law 1519 = .ok (.iaload, 1) := by decide +kernel
theorem dL_law_1520 : decode cL_law 1520 = .ok (.i2l, 1) := by decide +kernel
theorem dL_law_1521 : decode cL_law 1521 = .ok (.bipush 32, 2) := by decide +kernel
theorem dL_law_1523 : decode cL_law 1523 = .ok (.lshl, 1) := by decide +kernel
theorem dL_law_1524 : decode cL_law 1524 = .ok (.aload_n 0, 1) := by decide +kernel
theorem dL_law_1525 : decode cL_law 1525 = .ok (.iload 4, 2) := by decide +kernel
theorem dL_law_1527 : decode cL_law 1527 = .ok (.iconst 3, 1) := by decide +kernel
theorem dL_law_1528 : decode cL_law 1528 = .ok (.iadd, 1) := by decide +kernel
theorem dL_law_1529 : decode cL_law 1529 = .ok (.iaload, 1) := by decide +kernel
theorem dL_law_1530 : decode cL_law 1530 = .ok (.i2l, 1) := by decide +kernel
theorem dL_law_1531 : decode cL_law 1531 = .ok (.ldc2_w 186, 3) := by decide +kernel
theorem dL_law_1534 : decode cL_law 1534 = .ok (.land, 1) := by decide +kernel
theorem dL_law_1535 : decode cL_law 1535 = .ok (.lor, 1) := by decide +kernel
theorem dL_law_1536 : decode cL_law 1536 = .ok (.invokevirtual 191, 3) := by decide +kernel
theorem dL_law_1539 : decode cL_law 1539 = .ok (.istore 6, 2) := by decide +kernel
theorem dL_law_1541 : decode cL_law 1541 = .ok (.aload_n 2, 1) := by decide +kernel
theorem dL_law_1542 : decode cL_law 1542 = .ok (.invokevirtual 105, 3) := by decide +kernel
theorem dL_law_1545 : decode cL_law 1545 = .ok (.iload 5, 2) := by decide +kernel
theorem dL_law_1547 : decode cL_law 1547 = .ok (.if_icmp .eq 5, 3) := by decide +kernel
theorem dL_law_1550 : decode cL_law 1550 = .ok (.iconst 0, 1) := by decide +kernel
theorem dL_law_1551 : decode cL_law 1551 = .ok (.ireturn, 1) := by decide +kernel
theorem dL_law_1552 : decode cL_law 1552 = .ok (.iload 5, 2) := by decide +kernel
theorem dL_law_1554 : decode cL_law 1554 = .ok (.ifCond .ne 15, 3) := by decide +kernel
theorem dL_law_1557 : decode cL_law 1557 = .ok (.aload_n 3, 1) := by decide +kernel
theorem dL_law_1558 : decode cL_law 1558 = .ok (.iconst 0, 1) := by decide +kernel
theorem dL_law_1559 : decode cL_law 1559 = .ok (.laload, 1) := by decide +kernel
theorem dL_law_1560 : decode cL_law 1560 = .ok (.iload 6, 2) := by decide +kernel
theorem dL_law_1562 : decode cL_law 1562 = .ok (.i2l, 1) := by decide +kernel
theorem dL_law_1563 : decode cL_law 1563 = .ok (.lcmp, 1) := by decide +kernel
theorem dL_law_1564 : decode cL_law 1564 = .ok (.ifCond .eq 5, 3) := by decide +kernel
theorem dL_law_1567 : decode cL_law 1567 = .ok (.iconst 0, 1) := by decide +kernel
theorem dL_law_1568 : decode cL_law 1568 = .ok (.ireturn, 1) := by decide +kernel
theorem dL_law_1569 : decode cL_law 1569 = .ok (.goto 214, 3) := by decide +kernel
theorem dL_law_1572 : decode cL_law 1572 = .ok (.aload_n 1, 1) := by decide +kernel
theorem dL_law_1573 : decode cL_law 1573 = .ok (.aload_n 0, 1) := by decide +kernel
theorem dL_law_1574 : decode cL_law 1574 = .ok (.iload 4, 2) := by decide +kernel
theorem dL_law_1576 : decode cL_law 1576 = .ok (.iconst 1, 1) := by decide +kernel
theorem dL_law_1577 : decode cL_law 1577 = .ok (.iadd, 1) := by decide +kernel
theorem dL_law_1578 : decode cL_law 1578 = .ok (.iaload, 1) := by decide +kernel
theorem dL_law_1579 : decode cL_law 1579 = .ok (.i2l, 1) := by decide +kernel
theorem dL_law_1580 : decode cL_law 1580 = .ok (.bipush 32, 2) := by decide +kernel
theorem dL_law_1582 : decode cL_law 1582 = .ok (.lshl, 1) := by decide +kernel
theorem dL_law_1583 : decode cL_law 1583 = .ok (.aload_n 0, 1) := by decide +kernel
theorem dL_law_1584 : decode cL_law 1584 = .ok (.iload 4, 2) := by decide +kernel
theorem dL_law_1586 : decode cL_law 1586 = .ok (.iconst 2, 1) := by decide +kernel
theorem dL_law_1587 : decode cL_law 1587 = .ok (.iadd, 1) := by decide +kernel
theorem dL_law_1588 : decode cL_law 1588 = .ok (.iaload, 1) := by decide +kernel
theorem dL_law_1589 : decode cL_law 1589 = .ok (.i2l, 1) := by decide +kernel
theorem dL_law_1590 : decode cL_law 1590 = .ok (.ldc2_w 186, 3) := by decide +kernel
theorem dL_law_1593 : decode cL_law 1593 = .ok (.land, 1) := by decide +kernel
theorem dL_law_1594 : decode cL_law 1594 = .ok (.lor, 1) := by decide +kernel
theorem dL_law_1595 : decode cL_law 1595 = .ok (.aload_n 0, 1) := by decide +kernel
theorem dL_law_1596 : decode cL_law 1596 = .ok (.iload 4, 2) := by decide +kernel
theorem dL_law_1598 : decode cL_law 1598 = .ok (.iconst 3, 1) := by decide +kernel
theorem dL_law_1599 : decode cL_law 1599 = .ok (.iadd, 1) := by decide +kernel
theorem dL_law_1600 : decode cL_law 1600 = .ok (.iaload, 1) := by decide +kernel
theorem dL_law_1601 : decode cL_law 1601 = .ok (.aload_n 3, 1) := by decide +kernel
theorem dL_law_1602 : decode cL_law 1602 = .ok (.invokestatic 192, 3) := by decide +kernel
theorem dL_law_1605 : decode cL_law 1605 = .ok (.istore 5, 2) := by decide +kernel
theorem dL_law_1607 : decode cL_law 1607 = .ok (.aload_n 2, 1) := by decide +kernel
theorem dL_law_1608 : decode cL_law 1608 = .ok (.aload_n 0, 1) := by decide +kernel
theorem dL_law_1609 : decode cL_law 1609 = .ok (.iload 4, 2) := by decide +kernel
theorem dL_law_1611 : decode cL_law 1611 = .ok (.iconst 1, 1) := by decide +kernel
theorem dL_law_1612 : decode cL_law 1612 = .ok (.iadd, 1) := by decide +kernel
theorem dL_law_1613 : decode cL_law 1613 = .ok (.iaload, 1) := by decide +kernel
theorem dL_law_1614 : decode cL_law 1614 = .ok (.i2l, 1) := by decide +kernel
theorem dL_law_1615 : decode cL_law 1615 = .ok (.bipush 32, 2) := by decide +kernel
theorem dL_law_1617 : decode cL_law 1617 = .ok (.lshl, 1) := by decide +kernel
theorem dL_law_1618 : decode cL_law 1618 = .ok (.aload_n 0, 1) := by decide +kernel
theorem dL_law_1619 : decode cL_law 1619 = .ok (.iload 4, 2) := by decide +kernel
theorem dL_law_1621 : decode cL_law 1621 = .ok (.iconst 2, 1) := by decide +kernel
theorem dL_law_1622 : decode cL_law 1622 = .ok (.iadd, 1) := by decide +kernel
theorem dL_law_1623 : decode cL_law 1623 = .ok (.iaload, 1) := by decide +kernel
theorem dL_law_1624 : decode cL_law 1624 = .ok (.i2l, 1) := by decide +kernel
theorem dL_law_1625 : decode cL_law 1625 = .ok (.ldc2_w 186, 3) := by decide +kernel
theorem dL_law_1628 : decode cL_law 1628 = .ok (.land, 1) := by decide +kernel
theorem dL_law_1629 : decode cL_law 1629 = .ok (.lor, 1) := by decide +kernel
theorem dL_law_1630 : decode cL_law 1630 = .ok (.aload_n 0, 1) := by decide +kernel
theorem dL_law_1631 : decode cL_law 1631 = .ok (.iload 4, 2) := by decide +kernel
theorem dL_law_1633 : decode cL_law 1633 = .ok (.iconst 3, 1) := by decide +kernel
theorem dL_law_1634 : decode cL_law 1634 = .ok (.iadd, 1) := by decide +kernel
theorem dL_law_1635 : decode cL_law 1635 = .ok (.iaload, 1) := by decide +kernel
theorem dL_law_1636 : decode cL_law 1636 = .ok (.invokevirtual 195, 3) := by decide +kernel
theorem dL_law_1639 : decode cL_law 1639 = .ok (.lstore 6, 2) := by decide +kernel
theorem dL_law_1641 : decode cL_law 1641 = .ok (.aload_n 2, 1) := by decide +kernel
theorem dL_law_1642 : decode cL_law 1642 = .ok (.invokevirtual 105, 3) := by decide +kernel
theorem dL_law_1645 : decode cL_law 1645 = .ok (.iload 5, 2) := by decide +kernel
theorem dL_law_1647 : decode cL_law 1647 = .ok (.if_icmp .eq 5, 3) := by decide +kernel
theorem dL_law_1650 : decode cL_law 1650 = .ok (.iconst 0, 1) := by decide +kernel
theorem dL_law_1651 : decode cL_law 1651 = .ok (.ireturn, 1) := by decide +kernel
theorem dL_law_1652 : decode cL_law 1652 = .ok (.iload 5, 2) := by decide +kernel
theorem dL_law_1654 : decode cL_law 1654 = .ok (.ifCond .ne 14, 3) := by decide +kernel
theorem dL_law_1657 : decode cL_law 1657 = .ok (.aload_n 3, 1) := by decide +kernel
theorem dL_law_1658 : decode cL_law 1658 = .ok (.iconst 0, 1) := by decide +kernel
theorem dL_law_1659 : decode cL_law 1659 = .ok (.laload, 1) := by decide +kernel
theorem dL_law_1660 : decode cL_law 1660 = .ok (.lload 6, 2) := by decide +kernel
theorem dL_law_1662 : decode cL_law 1662 = .ok (.lcmp, 1) := by decide +kernel
theorem dL_law_1663 : decode cL_law 1663 = .ok (.ifCond .eq 5, 3) := by decide +kernel
theorem dL_law_1666 : decode cL_law 1666 = .ok (.iconst 0, 1) := by decide +kernel
theorem dL_law_1667 : decode cL_law 1667 = .ok (.ireturn, 1) := by decide +kernel
theorem dL_law_1668 : decode cL_law 1668 = .ok (.goto 115, 3) := by decide +kernel
theorem dL_law_1671 : decode cL_law 1671 = .ok (.aload_n 1, 1) := by decide +kernel
theorem dL_law_1672 : decode cL_law 1672 = .ok (.aload_n 0, 1) := by decide +kernel
theorem dL_law_1673 : decode cL_law 1673 = .ok (.iload 4, 2) := by decide +kernel
theorem dL_law_1675 : decode cL_law 1675 = .ok (.iconst 1, 1) := by decide +kernel
theorem dL_law_1676 : decode cL_law 1676 = .ok (.iadd, 1) := by decide +kernel
theorem dL_law_1677 : decode cL_law 1677 = .ok (.iaload, 1) := by decide +kernel
theorem dL_law_1678 : decode cL_law 1678 = .ok (.aload_n 3, 1) := by decide +kernel
theorem dL_law_1679 : decode cL_law 1679 = .ok (.invokestatic 196, 3) := by decide +kernel
theorem dL_law_1682 : decode cL_law 1682 = .ok (.istore 5, 2) := by decide +kernel
theorem dL_law_1684 : decode cL_law 1684 = .ok (.aload_n 2, 1) := by decide +kernel
theorem dL_law_1685 : decode cL_law 1685 = .ok (.aload_n 0, 1) := by decide +kernel
theorem dL_law_1686 : decode cL_law 1686 = .ok (.iload 4, 2) := by decide +kernel
theorem dL_law_1688 : decode cL_law 1688 = .ok (.iconst 1, 1) := by decide +kernel
theorem dL_law_1689 : decode cL_law 1689 = .ok (.iadd, 1) := by decide +kernel
theorem dL_law_1690 : decode cL_law 1690 = .ok (.iaload, 1) := by decide +kernel
theorem dL_law_1691 : decode cL_law 1691 = .ok (.invokevirtual 198, 3) := by decide +kernel
theorem dL_law_1694 : decode cL_law 1694 = .ok (.istore 6, 2) := by decide +kernel
theorem dL_law_1696 : decode cL_law 1696 = .ok (.aload_n 2, 1) := by decide +kernel
theorem dL_law_1697 : decode cL_law 1697 = .ok (.invokevirtual 105, 3) := by decide +kernel
theorem dL_law_1700 : decode cL_law 1700 = .ok (.iload 5, 2) := by decide +kernel
theorem dL_law_1702 : decode cL_law 1702 = .ok (.if_icmp .eq 5, 3) := by decide +kernel
theorem dL_law_1705 : decode cL_law 1705 = .ok (.iconst 0, 1) := by decide +kernel
theorem dL_law_1706 : decode cL_law 1706 = .ok (.ireturn, 1) := by decide +kernel
theorem dL_law_1707 : decode cL_law 1707 = .ok (.iload 5, 2) := by decide +kernel
theorem dL_law_1709 : decode cL_law 1709 = .ok (.ifCond .ne 15, 3) := by decide +kernel
theorem dL_law_1712 : decode cL_law 1712 = .ok (.aload_n 3, 1) := by decide +kernel
theorem dL_law_1713 : decode cL_law 1713 = .ok (.iconst 0, 1) := by decide +kernel
theorem dL_law_1714 : decode cL_law 1714 = .ok (.laload, 1) := by decide +kernel
theorem dL_law_1715 : decode cL_law 1715 = .ok (.iload 6, 2) := by decide +kernel
theorem dL_law_1717 : decode cL_law 1717 = .ok (.i2l, 1) := by decide +kernel
theorem dL_law_1718 : decode cL_law 1718 = .ok (.lcmp, 1) := by decide +kernel
theorem dL_law_1719 : decode cL_law 1719 = .ok (.ifCond .eq 5, 3) := by decide +kernel
theorem dL_law_1722 : decode cL_law 1722 = .ok (.iconst 0, 1) := by decide +kernel
theorem dL_law_1723 : decode cL_law 1723 = .ok (.ireturn, 1) := by decide +kernel
theorem dL_law_1724 : decode cL_law 1724 = .ok (.goto 59, 3) := by decide +kernel
theorem dL_law_1727 : decode cL_law 1727 = .ok (.aload_n 1, 1) := by decide +kernel
theorem dL_law_1728 : decode cL_law 1728 = .ok (.aload_n 0, 1) := by decide +kernel
theorem dL_law_1729 : decode cL_law 1729 = .ok (.iload 4, 2) := by decide +kernel
theorem dL_law_1731 : decode cL_law 1731 = .ok (.iconst 1, 1) := by decide +kernel
theorem dL_law_1732 : decode cL_law 1732 = .ok (.iadd, 1) := by decide +kernel
theorem dL_law_1733 : decode cL_law 1733 = .ok (.iaload, 1) := by decide +kernel
theorem dL_law_1734 : decode cL_law 1734 = .ok (.aload_n 3, 1) := by decide +kernel
theorem dL_law_1735 : decode cL_law 1735 = .ok (.invokestatic 199, 3) := by decide +kernel
theorem dL_law_1738 : decode cL_law 1738 = .ok (.istore 5, 2) := by decide +kernel
theorem dL_law_1740 : decode cL_law 1740 = .ok (.aload_n 2, 1) := by decide +kernel
theorem dL_law_1741 : decode cL_law 1741 = .ok (.aload_n 0, 1) := by decide +kernel
theorem dL_law_1742 : decode cL_law 1742 = .ok (.iload 4, 2) := by decide +kernel
theorem dL_law_1744 : decode cL_law 1744 = .ok (.iconst 1, 1) := by decide +kernel
theorem dL_law_1745 : decode cL_law 1745 = .ok (.iadd, 1) := by decide +kernel
theorem dL_law_1746 : decode cL_law 1746 = .ok (.iaload, 1) := by decide +kernel
theorem dL_law_1747 : decode cL_law 1747 = .ok (.invokevirtual 201, 3) := by decide +kernel
theorem dL_law_1750 : decode cL_law 1750 = .ok (.istore 6, 2) := by decide +kernel
theorem dL_law_1752 : decode cL_law 1752 = .ok (.aload_n 2, 1) := by decide +kernel
theorem dL_law_1753 : decode cL_law 1753 = .ok (.invokevirtual 105, 3) := by decide +kernel
theorem dL_law_1756 : decode cL_law 1756 = .ok (.iload 5, 2) := by decide +kernel
theorem dL_law_1758 : decode cL_law 1758 = .ok (.if_icmp .eq 5, 3) := by decide +kernel
theorem dL_law_1761 : decode cL_law 1761 = .ok (.iconst 0, 1) := by decide +kernel
theorem dL_law_1762 : decode cL_law 1762 = .ok (.ireturn, 1) := by decide +kernel
theorem dL_law_1763 : decode cL_law 1763 = .ok (.iload 5, 2) := by decide +kernel
theorem dL_law_1765 : decode cL_law 1765 = .ok (.ifCond .ne 15, 3) := by decide +kernel
theorem dL_law_1768 : decode cL_law 1768 = .ok (.aload_n 3, 1) := by decide +kernel
theorem dL_law_1769 : decode cL_law 1769 = .ok (.iconst 0, 1) := by decide +kernel
theorem dL_law_1770 : decode cL_law 1770 = .ok (.laload, 1) := by decide +kernel
theorem dL_law_1771 : decode cL_law 1771 = .ok (.iload 6, 2) := by decide +kernel
theorem dL_law_1773 : decode cL_law 1773 = .ok (.i2l, 1) := by decide +kernel
theorem dL_law_1774 : decode cL_law 1774 = .ok (.lcmp, 1) := by decide +kernel
theorem dL_law_1775 : decode cL_law 1775 = .ok (.ifCond .eq 5, 3) := by decide +kernel
theorem dL_law_1778 : decode cL_law 1778 = .ok (.iconst 0, 1) := by decide +kernel
theorem dL_law_1779 : decode cL_law 1779 = .ok (.ireturn, 1) := by decide +kernel
theorem dL_law_1780 : decode cL_law 1780 = .ok (.goto 3, 3) := by decide +kernel
theorem dL_law_1783 : decode cL_law 1783 = .ok (.iinc 4 5, 3) := by decide +kernel
theorem dL_law_1786 : decode cL_law 1786 = .ok (.goto (-1763), 3) := by decide +kernel
theorem dL_law_1789 : decode cL_law 1789 = .ok (.iconst 1, 1) := by decide +kernel
theorem dL_law_1790 : decode cL_law 1790 = .ok (.ireturn, 1) := by decide +kernel
end
section
theorem zz_dummy : True := trivial
theorem i_vc : Claimed_1_1 ∧ Claimed_1_2 := sorry
end
