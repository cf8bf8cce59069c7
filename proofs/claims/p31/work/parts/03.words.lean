/-- the words that every method may use: those of the tables that stay true as the machine goes on -/
def UW : List Cond := lw_tbl.filter goodWord
theorem uw_in {w : Cond} (h : w ∈ lw_tbl) (hg : goodWord w = true) : w ∈ UW := List.mem_filter.mpr ⟨h, hg⟩
theorem uw_tb {w : Cond} (i : Nat) (h : tables_1[i]? = some w) (hg : goodWord w = true) : w ∈ UW := uw_in (List.mem_append_right _ (List.mem_of_getElem? h)) hg
theorem uw_t1 {w : Cond} (i : Nat) (h : tables_1_1[i]? = some w) (hg : goodWord w = true) : w ∈ UW := uw_in (List.mem_append_right _ (show w ∈ tables_1 from List.mem_append_left _ (List.mem_of_getElem? h))) hg
theorem uw_t2 {w : Cond} (i : Nat) (h : tables_1_2[i]? = some w) (hg : goodWord w = true) : w ∈ UW := uw_in (List.mem_append_right _ (show w ∈ tables_1 from List.mem_append_right _ (List.mem_append_left _ (List.mem_of_getElem? h)))) hg
theorem uw_t3 {w : Cond} (i : Nat) (h : tables_1_3[i]? = some w) (hg : goodWord w = true) : w ∈ UW := uw_in (List.mem_append_right _ (show w ∈ tables_1 from List.mem_append_right _ (List.mem_append_right _ (List.mem_append_left _ (List.mem_of_getElem? h))))) hg
theorem uw_t4 {w : Cond} (i : Nat) (h : tables_1_4[i]? = some w) (hg : goodWord w = true) : w ∈ UW := uw_in (List.mem_append_right _ (show w ∈ tables_1 from List.mem_append_right _ (List.mem_append_right _ (List.mem_append_right _ (List.mem_of_getElem? h))))) hg
theorem mw_0 : (Jvm.Cond.initialized "MixerStationLaw") ∈ UW := uw_t1 0 rfl rfl
theorem mw_1 : (Jvm.Cond.initialized "MixerStation") ∈ UW := uw_t1 1 rfl rfl
theorem mw_2 : (Jvm.Cond.initialized "MixerStation$State") ∈ UW := uw_t1 2 rfl rfl
theorem mw_3 : (Jvm.Cond.initialized "MixerStation$Ledger") ∈ UW := uw_t1 3 rfl rfl
theorem mw_4 : (Jvm.Cond.initialized "MixerStation$Room") ∈ UW := uw_t1 4 rfl rfl
theorem mw_5 : (Jvm.Cond.initialized "java/lang/System") ∈ UW := uw_t1 5 rfl rfl
theorem mw_6 : (Jvm.Cond.initialized "MixerStation$History") ∈ UW := uw_t1 6 rfl rfl
theorem mw_7 : (Jvm.Cond.initialized "java/lang/Math") ∈ UW := uw_t1 7 rfl rfl
theorem mw_8 : (Jvm.Cond.initialized "java/lang/Throwable") ∈ UW := uw_t1 8 rfl rfl
theorem mw_9 : (Jvm.Cond.initialized "java/lang/Exception") ∈ UW := uw_t1 9 rfl rfl
theorem mw_10 : (Jvm.Cond.initialized "java/lang/RuntimeException") ∈ UW := uw_t1 10 rfl rfl
theorem mw_11 : (Jvm.Cond.initialized "java/lang/IllegalArgumentException") ∈ UW := uw_t1 11 rfl rfl
theorem mw_12 : (Jvm.Cond.initialized "java/lang/IndexOutOfBoundsException") ∈ UW := uw_t1 12 rfl rfl
theorem mw_13 : (Jvm.Cond.initialized "MixerStation$StationReader") ∈ UW := uw_t1 13 rfl rfl
theorem mw_14 : (Jvm.Cond.initialized "java/lang/IllegalStateException") ∈ UW := uw_t1 14 rfl rfl
theorem mw_15 : (Jvm.Cond.classLink "MixerStationLaw" (10 : Nat) "MixerStation") ∈ UW := uw_t1 15 rfl rfl
theorem mw_16 : (Jvm.Cond.instantiable "MixerStation" (7 : Nat)) ∈ UW := uw_t1 16 rfl rfl
theorem mw_17 : (Jvm.Cond.methodLink "MixerStationLaw" (223 : Nat) ({ cls := "MixerStation", name := "<init>", desc := "()V" } : Jvm.MethodName)) ∈ UW := uw_t1 17 rfl rfl
theorem mw_18 : (Jvm.Cond.instanceMethod ({ cls := "MixerStation", name := "<init>", desc := "()V" } : Jvm.MethodName)) ∈ UW := uw_t1 18 rfl rfl
theorem mw_19 : (Jvm.Cond.code ({ cls := "MixerStation", name := "<init>", desc := "()V" } : Jvm.MethodName) prog_1_method_1_code (2 : Nat) (Option.none : Option Jvm.ClassFile.FieldType)) ∈ UW := uw_t1 19 rfl rfl
theorem mw_20 : (Jvm.Cond.methodLink "MixerStation" (3 : Nat) ({ cls := "java/lang/Object", name := "<init>", desc := "()V" } : Jvm.MethodName)) ∈ UW := uw_t1 20 rfl rfl
theorem mw_21 : (Jvm.Cond.instanceMethod ({ cls := "java/lang/Object", name := "<init>", desc := "()V" } : Jvm.MethodName)) ∈ UW := uw_t1 21 rfl rfl
theorem mw_22 : (Jvm.Cond.code ({ cls := "java/lang/Object", name := "<init>", desc := "()V" } : Jvm.MethodName) object_method_1_code (1 : Nat) (Option.none : Option Jvm.ClassFile.FieldType)) ∈ UW := uw_t1 22 rfl rfl
theorem mw_23 : (Jvm.Cond.classLink "MixerStation" (13 : Nat) "MixerStation$State") ∈ UW := uw_t1 23 rfl rfl
theorem mw_24 : (Jvm.Cond.instantiable "MixerStation$State" (14 : Nat)) ∈ UW := uw_t1 24 rfl rfl
theorem mw_25 : (Jvm.Cond.methodLink "MixerStation" (15 : Nat) ({ cls := "MixerStation$State", name := "<init>", desc := "()V" } : Jvm.MethodName)) ∈ UW := uw_t1 25 rfl rfl
theorem mw_26 : (Jvm.Cond.instanceMethod ({ cls := "MixerStation$State", name := "<init>", desc := "()V" } : Jvm.MethodName)) ∈ UW := uw_t1 26 rfl rfl
theorem mw_27 : (Jvm.Cond.code ({ cls := "MixerStation$State", name := "<init>", desc := "()V" } : Jvm.MethodName) prog_5_method_1_code (2 : Nat) (Option.none : Option Jvm.ClassFile.FieldType)) ∈ UW := uw_t1 27 rfl rfl
theorem mw_28 : (Jvm.Cond.methodLink "MixerStation$State" (3 : Nat) ({ cls := "java/lang/Object", name := "<init>", desc := "()V" } : Jvm.MethodName)) ∈ UW := uw_t1 28 rfl rfl
theorem mw_29 : (Jvm.Cond.classLink "MixerStation$State" (21 : Nat) "MixerStation$Room") ∈ UW := uw_t1 29 rfl rfl
theorem mw_31 : (Jvm.Cond.classLink "MixerStation$State" (27 : Nat) "MixerStation$Ledger") ∈ UW := uw_t1 31 rfl rfl
theorem mw_32 : (Jvm.Cond.instantiable "MixerStation$Ledger" (4 : Nat)) ∈ UW := uw_t1 32 rfl rfl
theorem mw_34 : (Jvm.Cond.instanceMethod ({ cls := "MixerStation$Ledger", name := "<init>", desc := "()V" } : Jvm.MethodName)) ∈ UW := uw_t1 34 rfl rfl
theorem mw_35 : (Jvm.Cond.code ({ cls := "MixerStation$Ledger", name := "<init>", desc := "()V" } : Jvm.MethodName) prog_3_method_1_code (1 : Nat) (Option.none : Option Jvm.ClassFile.FieldType)) ∈ UW := uw_t1 35 rfl rfl
theorem mw_36 : (Jvm.Cond.methodLink "MixerStation$Ledger" (3 : Nat) ({ cls := "java/lang/Object", name := "<init>", desc := "()V" } : Jvm.MethodName)) ∈ UW := uw_t1 36 rfl rfl
theorem mw_37 : (Jvm.Cond.fieldLink "MixerStation$Ledger" (9 : Nat) "MixerStation$Ledger" "from" "[I") ∈ UW := uw_t1 37 rfl rfl
theorem mw_38 : (Jvm.Cond.fieldLink "MixerStation" (196 : Nat) "MixerStation$Ledger" "from" "[I") ∈ UW := uw_t1 38 rfl rfl
theorem mw_39 : (Jvm.Cond.fieldLink "MixerStation$Ledger" (15 : Nat) "MixerStation$Ledger" "to" "[I") ∈ UW := uw_t1 39 rfl rfl
theorem mw_40 : (Jvm.Cond.fieldLink "MixerStation" (200 : Nat) "MixerStation$Ledger" "to" "[I") ∈ UW := uw_t1 40 rfl rfl
theorem mw_41 : (Jvm.Cond.fieldLink "MixerStation$Ledger" (18 : Nat) "MixerStation$Ledger" "sum" "[I") ∈ UW := uw_t1 41 rfl rfl
theorem mw_42 : (Jvm.Cond.fieldLink "MixerStation" (203 : Nat) "MixerStation$Ledger" "sum" "[I") ∈ UW := uw_t1 42 rfl rfl
theorem mw_43 : (Jvm.Cond.fieldLink "MixerStation$Ledger" (27 : Nat) "MixerStation$Ledger" "count" "I") ∈ UW := uw_t1 43 rfl rfl
theorem mw_44 : (Jvm.Cond.fieldLink "MixerStation$State" (67 : Nat) "MixerStation$Ledger" "count" "I") ∈ UW := uw_t1 44 rfl rfl
theorem mw_45 : (Jvm.Cond.fieldLink "MixerStation" (115 : Nat) "MixerStation$Ledger" "count" "I") ∈ UW := uw_t1 45 rfl rfl
theorem mw_46 : (Jvm.Cond.laysFinal "MixerStation$Ledger" "MixerStation$Ledger" "from" "[I") ∈ UW := uw_t1 46 rfl rfl
theorem mw_48 : (Jvm.Cond.laysFinal "MixerStation$Ledger" "MixerStation$Ledger" "to" "[I") ∈ UW := uw_t1 48 rfl rfl
theorem mw_50 : (Jvm.Cond.laysFinal "MixerStation$Ledger" "MixerStation$Ledger" "sum" "[I") ∈ UW := uw_t1 50 rfl rfl
theorem mw_52 : (Jvm.Cond.lays "MixerStation$Ledger" "MixerStation$Ledger" "count" "I") ∈ UW := uw_t1 52 rfl rfl
theorem mw_55 : (Jvm.Cond.arrayClass Jvm.ClassFile.FieldType.char) ∈ UW := uw_t1 55 rfl rfl
theorem mw_56 : (Jvm.Cond.arrayClass Jvm.ClassFile.FieldType.int) ∈ UW := uw_t1 56 rfl rfl
theorem mw_57 : (Jvm.Cond.instantiable "MixerStation$Room" (7 : Nat)) ∈ UW := uw_t1 57 rfl rfl
theorem mw_59 : (Jvm.Cond.instanceMethod ({ cls := "MixerStation$Room", name := "<init>", desc := "()V" } : Jvm.MethodName)) ∈ UW := uw_t1 59 rfl rfl
theorem mw_60 : (Jvm.Cond.code ({ cls := "MixerStation$Room", name := "<init>", desc := "()V" } : Jvm.MethodName) prog_4_method_1_code (1 : Nat) (Option.none : Option Jvm.ClassFile.FieldType)) ∈ UW := uw_t1 60 rfl rfl
theorem mw_61 : (Jvm.Cond.methodLink "MixerStation$Room" (1 : Nat) ({ cls := "java/lang/Object", name := "<init>", desc := "()V" } : Jvm.MethodName)) ∈ UW := uw_t1 61 rfl rfl
theorem mw_62 : (Jvm.Cond.fieldLink "MixerStation$Room" (7 : Nat) "MixerStation$Room" "wanted" "I") ∈ UW := uw_t1 62 rfl rfl
theorem mw_63 : (Jvm.Cond.fieldLink "MixerStation" (160 : Nat) "MixerStation$Room" "wanted" "I") ∈ UW := uw_t1 63 rfl rfl
theorem mw_64 : (Jvm.Cond.fieldLink "MixerStation$State" (116 : Nat) "MixerStation$Room" "wanted" "I") ∈ UW := uw_t1 64 rfl rfl
theorem mw_65 : (Jvm.Cond.fieldLink "MixerStation$Room" (13 : Nat) "MixerStation$Room" "radiators" "I") ∈ UW := uw_t1 65 rfl rfl
theorem mw_66 : (Jvm.Cond.fieldLink "MixerStation" (165 : Nat) "MixerStation$Room" "radiators" "I") ∈ UW := uw_t1 66 rfl rfl
theorem mw_67 : (Jvm.Cond.fieldLink "MixerStation$State" (169 : Nat) "MixerStation$Room" "radiators" "I") ∈ UW := uw_t1 67 rfl rfl
theorem mw_68 : (Jvm.Cond.fieldLink "MixerStation$Room" (16 : Nat) "MixerStation$Room" "leak" "I") ∈ UW := uw_t1 68 rfl rfl
theorem mw_69 : (Jvm.Cond.fieldLink "MixerStation" (168 : Nat) "MixerStation$Room" "leak" "I") ∈ UW := uw_t1 69 rfl rfl
theorem mw_70 : (Jvm.Cond.fieldLink "MixerStation$State" (172 : Nat) "MixerStation$Room" "leak" "I") ∈ UW := uw_t1 70 rfl rfl
theorem mw_71 : (Jvm.Cond.fieldLink "MixerStation$Room" (19 : Nat) "MixerStation$Room" "open" "Z") ∈ UW := uw_t1 71 rfl rfl
theorem mw_72 : (Jvm.Cond.fieldLink "MixerStation$State" (90 : Nat) "MixerStation$Room" "open" "Z") ∈ UW := uw_t1 72 rfl rfl
theorem mw_73 : (Jvm.Cond.fieldLink "MixerStation" (171 : Nat) "MixerStation$Room" "open" "Z") ∈ UW := uw_t1 73 rfl rfl
theorem mw_74 : (Jvm.Cond.fieldLink "MixerStation$Room" (23 : Nat) "MixerStation$Room" "comfort" "I") ∈ UW := uw_t1 74 rfl rfl
theorem mw_75 : (Jvm.Cond.fieldLink "MixerStation" (174 : Nat) "MixerStation$Room" "comfort" "I") ∈ UW := uw_t1 75 rfl rfl
theorem mw_76 : (Jvm.Cond.fieldLink "MixerStation$State" (106 : Nat) "MixerStation$Room" "comfort" "I") ∈ UW := uw_t1 76 rfl rfl
theorem mw_77 : (Jvm.Cond.fieldLink "MixerStation$Room" (26 : Nat) "MixerStation$Room" "cold" "I") ∈ UW := uw_t1 77 rfl rfl
theorem mw_78 : (Jvm.Cond.fieldLink "MixerStation" (177 : Nat) "MixerStation$Room" "cold" "I") ∈ UW := uw_t1 78 rfl rfl
theorem mw_79 : (Jvm.Cond.fieldLink "MixerStation$Room" (29 : Nat) "MixerStation$Room" "warm" "I") ∈ UW := uw_t1 79 rfl rfl
theorem mw_80 : (Jvm.Cond.fieldLink "MixerStation" (180 : Nat) "MixerStation$Room" "warm" "I") ∈ UW := uw_t1 80 rfl rfl
theorem mw_81 : (Jvm.Cond.lays "MixerStation$Room" "MixerStation$Room" "wanted" "I") ∈ UW := uw_t1 81 rfl rfl
theorem mw_83 : (Jvm.Cond.lays "MixerStation$Room" "MixerStation$Room" "radiators" "I") ∈ UW := uw_t1 83 rfl rfl
theorem mw_85 : (Jvm.Cond.lays "MixerStation$Room" "MixerStation$Room" "leak" "I") ∈ UW := uw_t1 85 rfl rfl
theorem mw_87 : (Jvm.Cond.lays "MixerStation$Room" "MixerStation$Room" "open" "Z") ∈ UW := uw_t1 87 rfl rfl
theorem mw_89 : (Jvm.Cond.lays "MixerStation$Room" "MixerStation$Room" "comfort" "I") ∈ UW := uw_t1 89 rfl rfl
theorem mw_91 : (Jvm.Cond.lays "MixerStation$Room" "MixerStation$Room" "cold" "I") ∈ UW := uw_t1 91 rfl rfl
theorem mw_93 : (Jvm.Cond.lays "MixerStation$Room" "MixerStation$Room" "warm" "I") ∈ UW := uw_t1 93 rfl rfl
theorem mw_96 : (Jvm.Cond.methodLink "MixerStation$State" (35 : Nat) ({ cls := "MixerStation$State", name := "beginAnew", desc := "()V" } : Jvm.MethodName)) ∈ UW := uw_t1 96 rfl rfl
theorem mw_97 : (Jvm.Cond.instanceMethod ({ cls := "MixerStation$State", name := "beginAnew", desc := "()V" } : Jvm.MethodName)) ∈ UW := uw_t1 97 rfl rfl
theorem mw_98 : (Jvm.Cond.selects "MixerStation$State" ({ cls := "MixerStation$State", name := "beginAnew", desc := "()V" } : Jvm.MethodName) ({ cls := "MixerStation$State", name := "beginAnew", desc := "()V" } : Jvm.MethodName)) ∈ UW := uw_t1 98 rfl rfl
theorem mw_99 : (Jvm.Cond.code ({ cls := "MixerStation$State", name := "beginAnew", desc := "()V" } : Jvm.MethodName) prog_5_method_2_code (1 : Nat) (Option.none : Option Jvm.ClassFile.FieldType)) ∈ UW := uw_t1 99 rfl rfl
theorem mw_102 : (Jvm.Cond.methodLink "MixerStation$State" (73 : Nat) ({ cls := "java/lang/System", name := "arraycopy", desc := "(Ljava/lang/Object;ILjava/lang/Object;II)V" } : Jvm.MethodName)) ∈ UW := uw_t1 102 rfl rfl
theorem mw_103 : (Jvm.Cond.static ({ cls := "java/lang/System", name := "arraycopy", desc := "(Ljava/lang/Object;ILjava/lang/Object;II)V" } : Jvm.MethodName)) ∈ UW := uw_t1 103 rfl rfl
theorem mw_104 : (Jvm.Cond.native ({ cls := "java/lang/System", name := "arraycopy", desc := "(Ljava/lang/Object;ILjava/lang/Object;II)V" } : Jvm.MethodName)) ∈ UW := uw_t1 104 rfl rfl
theorem mw_105 : (Jvm.Cond.fieldLink "MixerStation$State" (38 : Nat) "MixerStation$State" "minutes" "I") ∈ UW := uw_t1 105 rfl rfl
theorem mw_106 : (Jvm.Cond.fieldLink "MixerStation" (79 : Nat) "MixerStation$State" "minutes" "I") ∈ UW := uw_t1 106 rfl rfl
theorem mw_107 : (Jvm.Cond.fieldLink "MixerStation$State" (42 : Nat) "MixerStation$State" "outdoors" "I") ∈ UW := uw_t1 107 rfl rfl
theorem mw_108 : (Jvm.Cond.fieldLink "MixerStation" (82 : Nat) "MixerStation$State" "outdoors" "I") ∈ UW := uw_t1 108 rfl rfl
theorem mw_109 : (Jvm.Cond.fieldLink "MixerStation$StationReader" (71 : Nat) "MixerStation$State" "outdoors" "I") ∈ UW := uw_t1 109 rfl rfl
theorem mw_110 : (Jvm.Cond.fieldLink "MixerStation$State" (45 : Nat) "MixerStation$State" "burning" "Z") ∈ UW := uw_t1 110 rfl rfl
theorem mw_111 : (Jvm.Cond.fieldLink "MixerStation" (85 : Nat) "MixerStation$State" "burning" "Z") ∈ UW := uw_t1 111 rfl rfl
theorem mw_112 : (Jvm.Cond.fieldLink "MixerStation$State" (49 : Nat) "MixerStation$State" "sinceSwitch" "I") ∈ UW := uw_t1 112 rfl rfl
theorem mw_113 : (Jvm.Cond.fieldLink "MixerStation" (89 : Nat) "MixerStation$State" "sinceSwitch" "I") ∈ UW := uw_t1 113 rfl rfl
theorem mw_114 : (Jvm.Cond.fieldLink "MixerStation$State" (52 : Nat) "MixerStation$State" "starts" "I") ∈ UW := uw_t1 114 rfl rfl
theorem mw_115 : (Jvm.Cond.fieldLink "MixerStation" (105 : Nat) "MixerStation$State" "starts" "I") ∈ UW := uw_t1 115 rfl rfl
theorem mw_116 : (Jvm.Cond.fieldLink "MixerStation$State" (55 : Nat) "MixerStation$State" "share" "I") ∈ UW := uw_t1 116 rfl rfl
theorem mw_117 : (Jvm.Cond.fieldLink "MixerStation" (92 : Nat) "MixerStation$State" "share" "I") ∈ UW := uw_t1 117 rfl rfl
theorem mw_118 : (Jvm.Cond.fieldLink "MixerStation$State" (58 : Nat) "MixerStation$State" "summer" "Z") ∈ UW := uw_t1 118 rfl rfl
theorem mw_119 : (Jvm.Cond.fieldLink "MixerStation" (95 : Nat) "MixerStation$State" "summer" "Z") ∈ UW := uw_t1 119 rfl rfl
theorem mw_120 : (Jvm.Cond.fieldLink "MixerStation$State" (61 : Nat) "MixerStation$State" "seasonCounter" "I") ∈ UW := uw_t1 120 rfl rfl
theorem mw_121 : (Jvm.Cond.fieldLink "MixerStation" (98 : Nat) "MixerStation$State" "seasonCounter" "I") ∈ UW := uw_t1 121 rfl rfl
theorem mw_122 : (Jvm.Cond.fieldLink "MixerStation$State" (64 : Nat) "MixerStation$State" "roomCount" "I") ∈ UW := uw_t1 122 rfl rfl
theorem mw_123 : (Jvm.Cond.fieldLink "MixerStation" (76 : Nat) "MixerStation$State" "roomCount" "I") ∈ UW := uw_t1 123 rfl rfl
theorem mw_124 : (Jvm.Cond.fieldLink "MixerStation$State" (9 : Nat) "MixerStation$State" "settings" "[I") ∈ UW := uw_t1 124 rfl rfl
theorem mw_125 : (Jvm.Cond.fieldLink "MixerStation$State" (15 : Nat) "MixerStation$State" "heat" "[I") ∈ UW := uw_t1 125 rfl rfl
theorem mw_126 : (Jvm.Cond.fieldLink "MixerStation$State" (18 : Nat) "MixerStation$State" "capacity" "[I") ∈ UW := uw_t1 126 rfl rfl
theorem mw_127 : (Jvm.Cond.fieldLink "MixerStation$State" (23 : Nat) "MixerStation$State" "rooms" "[LMixerStation$Room;") ∈ UW := uw_t1 127 rfl rfl
theorem mw_128 : (Jvm.Cond.fieldLink "MixerStation" (156 : Nat) "MixerStation$State" "rooms" "[LMixerStation$Room;") ∈ UW := uw_t1 128 rfl rfl
theorem mw_129 : (Jvm.Cond.fieldLink "MixerStation$State" (30 : Nat) "MixerStation$State" "ledger" "LMixerStation$Ledger;") ∈ UW := uw_t1 129 rfl rfl
theorem mw_130 : (Jvm.Cond.fieldLink "MixerStation" (111 : Nat) "MixerStation$State" "ledger" "LMixerStation$Ledger;") ∈ UW := uw_t1 130 rfl rfl
theorem mw_131 : (Jvm.Cond.lays "MixerStation$State" "MixerStation$State" "minutes" "I") ∈ UW := uw_t1 131 rfl rfl
theorem mw_133 : (Jvm.Cond.lays "MixerStation$State" "MixerStation$State" "outdoors" "I") ∈ UW := uw_t1 133 rfl rfl
theorem mw_135 : (Jvm.Cond.lays "MixerStation$State" "MixerStation$State" "burning" "Z") ∈ UW := uw_t1 135 rfl rfl
theorem mw_137 : (Jvm.Cond.lays "MixerStation$State" "MixerStation$State" "sinceSwitch" "I") ∈ UW := uw_t1 137 rfl rfl
theorem mw_139 : (Jvm.Cond.lays "MixerStation$State" "MixerStation$State" "starts" "I") ∈ UW := uw_t1 139 rfl rfl
theorem mw_141 : (Jvm.Cond.lays "MixerStation$State" "MixerStation$State" "share" "I") ∈ UW := uw_t1 141 rfl rfl
theorem mw_143 : (Jvm.Cond.lays "MixerStation$State" "MixerStation$State" "summer" "Z") ∈ UW := uw_t1 143 rfl rfl
theorem mw_145 : (Jvm.Cond.lays "MixerStation$State" "MixerStation$State" "seasonCounter" "I") ∈ UW := uw_t1 145 rfl rfl
theorem mw_147 : (Jvm.Cond.lays "MixerStation$State" "MixerStation$State" "roomCount" "I") ∈ UW := uw_t1 147 rfl rfl
theorem mw_149 : (Jvm.Cond.laysFinal "MixerStation$State" "MixerStation$State" "settings" "[I") ∈ UW := uw_t1 149 rfl rfl
theorem mw_151 : (Jvm.Cond.laysFinal "MixerStation$State" "MixerStation$State" "heat" "[I") ∈ UW := uw_t1 151 rfl rfl
theorem mw_153 : (Jvm.Cond.laysFinal "MixerStation$State" "MixerStation$State" "capacity" "[I") ∈ UW := uw_t1 153 rfl rfl
theorem mw_155 : (Jvm.Cond.laysFinal "MixerStation$State" "MixerStation$State" "rooms" "[LMixerStation$Room;") ∈ UW := uw_t1 155 rfl rfl
theorem mw_157 : (Jvm.Cond.laysFinal "MixerStation$State" "MixerStation$State" "ledger" "LMixerStation$Ledger;") ∈ UW := uw_t1 157 rfl rfl
theorem mw_160 : (Jvm.Cond.classLink "MixerStation" (23 : Nat) "MixerStation$History") ∈ UW := uw_t1 160 rfl rfl
theorem mw_161 : (Jvm.Cond.instantiable "MixerStation$History" (2 : Nat)) ∈ UW := uw_t1 161 rfl rfl
theorem mw_162 : (Jvm.Cond.methodLink "MixerStation" (25 : Nat) ({ cls := "MixerStation$History", name := "<init>", desc := "()V" } : Jvm.MethodName)) ∈ UW := uw_t1 162 rfl rfl
theorem mw_163 : (Jvm.Cond.instanceMethod ({ cls := "MixerStation$History", name := "<init>", desc := "()V" } : Jvm.MethodName)) ∈ UW := uw_t1 163 rfl rfl
theorem mw_164 : (Jvm.Cond.code ({ cls := "MixerStation$History", name := "<init>", desc := "()V" } : Jvm.MethodName) prog_2_method_1_code (2 : Nat) (Option.none : Option Jvm.ClassFile.FieldType)) ∈ UW := uw_t1 164 rfl rfl
theorem mw_165 : (Jvm.Cond.methodLink "MixerStation$History" (3 : Nat) ({ cls := "java/lang/Object", name := "<init>", desc := "()V" } : Jvm.MethodName)) ∈ UW := uw_t1 165 rfl rfl
theorem mw_166 : (Jvm.Cond.classLink "MixerStation$History" (9 : Nat) "MixerStation$State") ∈ UW := uw_t1 166 rfl rfl
theorem mw_168 : (Jvm.Cond.methodLink "MixerStation$History" (17 : Nat) ({ cls := "MixerStation$State", name := "<init>", desc := "()V" } : Jvm.MethodName)) ∈ UW := uw_t1 168 rfl rfl
theorem mw_169 : (Jvm.Cond.fieldLink "MixerStation$History" (11 : Nat) "MixerStation$History" "states" "[LMixerStation$State;") ∈ UW := uw_t1 169 rfl rfl
theorem mw_170 : (Jvm.Cond.fieldLink "MixerStation$History" (18 : Nat) "MixerStation$History" "count" "I") ∈ UW := uw_t1 170 rfl rfl
theorem mw_171 : (Jvm.Cond.fieldLink "MixerStation" (275 : Nat) "MixerStation$History" "count" "I") ∈ UW := uw_t1 171 rfl rfl
theorem mw_172 : (Jvm.Cond.laysFinal "MixerStation$History" "MixerStation$History" "states" "[LMixerStation$State;") ∈ UW := uw_t1 172 rfl rfl
theorem mw_174 : (Jvm.Cond.lays "MixerStation$History" "MixerStation$History" "count" "I") ∈ UW := uw_t1 174 rfl rfl
theorem mw_177 : (Jvm.Cond.fieldLink "MixerStation" (9 : Nat) "MixerStation" "text" "[C") ∈ UW := uw_t1 177 rfl rfl
theorem mw_178 : (Jvm.Cond.fieldLink "MixerStation" (45 : Nat) "MixerStation" "textLength" "I") ∈ UW := uw_t1 178 rfl rfl
theorem mw_179 : (Jvm.Cond.fieldLink "MixerStation" (16 : Nat) "MixerStation" "state" "LMixerStation$State;") ∈ UW := uw_t1 179 rfl rfl
theorem mw_180 : (Jvm.Cond.fieldLink "MixerStation" (20 : Nat) "MixerStation" "copy" "LMixerStation$State;") ∈ UW := uw_t1 180 rfl rfl
theorem mw_181 : (Jvm.Cond.fieldLink "MixerStation" (26 : Nat) "MixerStation" "history" "LMixerStation$History;") ∈ UW := uw_t1 181 rfl rfl
theorem mw_182 : (Jvm.Cond.fieldLink "MixerStation" (30 : Nat) "MixerStation" "slots" "[LMixerStation$State;") ∈ UW := uw_t1 182 rfl rfl
theorem mw_183 : (Jvm.Cond.fieldLink "MixerStation" (34 : Nat) "MixerStation" "saved" "[Z") ∈ UW := uw_t1 183 rfl rfl
theorem mw_184 : (Jvm.Cond.laysFinal "MixerStation" "MixerStation" "text" "[C") ∈ UW := uw_t1 184 rfl rfl
theorem mw_186 : (Jvm.Cond.lays "MixerStation" "MixerStation" "textLength" "I") ∈ UW := uw_t1 186 rfl rfl
theorem mw_188 : (Jvm.Cond.laysFinal "MixerStation" "MixerStation" "state" "LMixerStation$State;") ∈ UW := uw_t1 188 rfl rfl
theorem mw_190 : (Jvm.Cond.laysFinal "MixerStation" "MixerStation" "copy" "LMixerStation$State;") ∈ UW := uw_t1 190 rfl rfl
theorem mw_192 : (Jvm.Cond.laysFinal "MixerStation" "MixerStation" "history" "LMixerStation$History;") ∈ UW := uw_t1 192 rfl rfl
theorem mw_194 : (Jvm.Cond.laysFinal "MixerStation" "MixerStation" "slots" "[LMixerStation$State;") ∈ UW := uw_t1 194 rfl rfl
theorem mw_196 : (Jvm.Cond.laysFinal "MixerStation" "MixerStation" "saved" "[Z") ∈ UW := uw_t1 196 rfl rfl
theorem mw_199 : (Jvm.Cond.arrayClass Jvm.ClassFile.FieldType.boolean) ∈ UW := uw_t1 199 rfl rfl
theorem mw_200 : (Jvm.Cond.methodLink "MixerStationLaw" (224 : Nat) ({ cls := "MixerStationLaw", name := "draw", desc := "([II)I" } : Jvm.MethodName)) ∈ UW := uw_t1 200 rfl rfl
theorem mw_201 : (Jvm.Cond.static ({ cls := "MixerStationLaw", name := "draw", desc := "([II)I" } : Jvm.MethodName)) ∈ UW := uw_t1 201 rfl rfl
theorem mw_202 : (Jvm.Cond.code ({ cls := "MixerStationLaw", name := "draw", desc := "([II)I" } : Jvm.MethodName) method_2_code (2 : Nat) (Option.some Jvm.ClassFile.FieldType.int)) ∈ UW := uw_t1 202 rfl rfl
theorem mw_203 : (Jvm.Cond.constant "MixerStationLaw" (7 : Nat) (15593213 : Int32)) ∈ UW := uw_t1 203 rfl rfl
theorem mw_204 : (Jvm.Cond.constant "MixerStationLaw" (8 : Nat) (2147483647 : Int32)) ∈ UW := uw_t1 204 rfl rfl
theorem mw_205 : (Jvm.Cond.methodLink "MixerStationLaw" (242 : Nat) ({ cls := "MixerStationLaw", name := "load", desc := "(LMixerStation;)J" } : Jvm.MethodName)) ∈ UW := uw_t1 205 rfl rfl
theorem mw_206 : (Jvm.Cond.static ({ cls := "MixerStationLaw", name := "load", desc := "(LMixerStation;)J" } : Jvm.MethodName)) ∈ UW := uw_t1 206 rfl rfl
theorem mw_207 : (Jvm.Cond.codeWith ({ cls := "MixerStationLaw", name := "load", desc := "(LMixerStation;)J" } : Jvm.MethodName) method_5_code (2 : Nat) (Option.some Jvm.ClassFile.FieldType.long) [((0 : Nat), (5 : Nat), (6 : Nat), (19 : Nat))]) ∈ UW := uw_t1 207 rfl rfl
theorem mw_208 : (Jvm.Cond.classLink "MixerStationLaw" (19 : Nat) "java/lang/IllegalStateException") ∈ UW := uw_t1 208 rfl rfl
theorem mw_209 : (Jvm.Cond.methodLink "MixerStationLaw" (23 : Nat) ({ cls := "MixerStation", name := "load", desc := "()I" } : Jvm.MethodName)) ∈ UW := uw_t1 209 rfl rfl
theorem mw_210 : (Jvm.Cond.instanceMethod ({ cls := "MixerStation", name := "load", desc := "()I" } : Jvm.MethodName)) ∈ UW := uw_t1 210 rfl rfl
theorem mw_211 : (Jvm.Cond.selects "MixerStation" ({ cls := "MixerStation", name := "load", desc := "()I" } : Jvm.MethodName) ({ cls := "MixerStation", name := "load", desc := "()I" } : Jvm.MethodName)) ∈ UW := uw_t1 211 rfl rfl
theorem mw_212 : (Jvm.Cond.code ({ cls := "MixerStation", name := "load", desc := "()I" } : Jvm.MethodName) prog_1_method_5_code (3 : Nat) (Option.some Jvm.ClassFile.FieldType.int)) ∈ UW := uw_t1 212 rfl rfl
theorem mw_213 : (Jvm.Cond.classLink "MixerStation" (54 : Nat) "MixerStation$StationReader") ∈ UW := uw_t1 213 rfl rfl
theorem mw_214 : (Jvm.Cond.instantiable "MixerStation$StationReader" (3 : Nat)) ∈ UW := uw_t1 214 rfl rfl
theorem mw_215 : (Jvm.Cond.methodLink "MixerStation" (56 : Nat) ({ cls := "MixerStation$StationReader", name := "<init>", desc := "([CI)V" } : Jvm.MethodName)) ∈ UW := uw_t1 215 rfl rfl
theorem mw_216 : (Jvm.Cond.instanceMethod ({ cls := "MixerStation$StationReader", name := "<init>", desc := "([CI)V" } : Jvm.MethodName)) ∈ UW := uw_t1 216 rfl rfl
theorem mw_217 : (Jvm.Cond.code ({ cls := "MixerStation$StationReader", name := "<init>", desc := "([CI)V" } : Jvm.MethodName) prog_6_method_1_code (3 : Nat) (Option.none : Option Jvm.ClassFile.FieldType)) ∈ UW := uw_t1 217 rfl rfl
theorem mw_218 : (Jvm.Cond.methodLink "MixerStation$StationReader" (3 : Nat) ({ cls := "java/lang/Object", name := "<init>", desc := "()V" } : Jvm.MethodName)) ∈ UW := uw_t1 218 rfl rfl
theorem mw_219 : (Jvm.Cond.fieldLink "MixerStation$StationReader" (9 : Nat) "MixerStation$StationReader" "text" "[C") ∈ UW := uw_t1 219 rfl rfl
theorem mw_220 : (Jvm.Cond.fieldLink "MixerStation$StationReader" (15 : Nat) "MixerStation$StationReader" "length" "I") ∈ UW := uw_t1 220 rfl rfl
theorem mw_221 : (Jvm.Cond.fieldLink "MixerStation$StationReader" (28 : Nat) "MixerStation$StationReader" "position" "I") ∈ UW := uw_t1 221 rfl rfl
theorem mw_222 : (Jvm.Cond.fieldLink "MixerStation" (64 : Nat) "MixerStation$StationReader" "position" "I") ∈ UW := uw_t1 222 rfl rfl
theorem mw_223 : (Jvm.Cond.laysFinal "MixerStation$StationReader" "MixerStation$StationReader" "text" "[C") ∈ UW := uw_t1 223 rfl rfl
theorem mw_225 : (Jvm.Cond.laysFinal "MixerStation$StationReader" "MixerStation$StationReader" "length" "I") ∈ UW := uw_t1 225 rfl rfl
theorem mw_227 : (Jvm.Cond.lays "MixerStation$StationReader" "MixerStation$StationReader" "position" "I") ∈ UW := uw_t1 227 rfl rfl
theorem mw_230 : (Jvm.Cond.methodLink "MixerStation" (59 : Nat) ({ cls := "MixerStation$StationReader", name := "readInto", desc := "(LMixerStation$State;)Z" } : Jvm.MethodName)) ∈ UW := uw_t1 230 rfl rfl
theorem mw_231 : (Jvm.Cond.instanceMethod ({ cls := "MixerStation$StationReader", name := "readInto", desc := "(LMixerStation$State;)Z" } : Jvm.MethodName)) ∈ UW := uw_t1 231 rfl rfl
theorem mw_232 : (Jvm.Cond.selects "MixerStation$StationReader" ({ cls := "MixerStation$StationReader", name := "readInto", desc := "(LMixerStation$State;)Z" } : Jvm.MethodName) ({ cls := "MixerStation$StationReader", name := "readInto", desc := "(LMixerStation$State;)Z" } : Jvm.MethodName)) ∈ UW := uw_t1 232 rfl rfl
theorem mw_233 : (Jvm.Cond.code ({ cls := "MixerStation$StationReader", name := "readInto", desc := "(LMixerStation$State;)Z" } : Jvm.MethodName) prog_6_method_2_code (3 : Nat) (Option.some Jvm.ClassFile.FieldType.boolean)) ∈ UW := uw_t1 233 rfl rfl
theorem mw_234 : (Jvm.Cond.methodLink "MixerStation$StationReader" (19 : Nat) ({ cls := "MixerStation$State", name := "beginAnew", desc := "()V" } : Jvm.MethodName)) ∈ UW := uw_t1 234 rfl rfl
theorem mw_235 : (Jvm.Cond.methodLink "MixerStation$StationReader" (24 : Nat) ({ cls := "MixerStation$StationReader", name := "readHead", desc := "(LMixerStation$State;)Z" } : Jvm.MethodName)) ∈ UW := uw_t1 235 rfl rfl
theorem mw_237 : (Jvm.Cond.instanceMethod ({ cls := "MixerStation$StationReader", name := "readHead", desc := "(LMixerStation$State;)Z" } : Jvm.MethodName)) ∈ UW := uw_t1 237 rfl rfl
theorem mw_238 : (Jvm.Cond.code ({ cls := "MixerStation$StationReader", name := "readHead", desc := "(LMixerStation$State;)Z" } : Jvm.MethodName) prog_6_method_3_code (2 : Nat) (Option.some Jvm.ClassFile.FieldType.boolean)) ∈ UW := uw_t1 238 rfl rfl
theorem mw_239 : (Jvm.Cond.methodLink "MixerStation$StationReader" (34 : Nat) ({ cls := "MixerStation$StationReader", name := "here", desc := "()I" } : Jvm.MethodName)) ∈ UW := uw_t1 239 rfl rfl
theorem mw_241 : (Jvm.Cond.instanceMethod ({ cls := "MixerStation$StationReader", name := "here", desc := "()I" } : Jvm.MethodName)) ∈ UW := uw_t2 1 rfl rfl
theorem mw_242 : (Jvm.Cond.code ({ cls := "MixerStation$StationReader", name := "here", desc := "()I" } : Jvm.MethodName) prog_6_method_9_code (1 : Nat) (Option.some Jvm.ClassFile.FieldType.int)) ∈ UW := uw_t2 2 rfl rfl
theorem mw_243 : (Jvm.Cond.methodLink "MixerStation$StationReader" (38 : Nat) ({ cls := "MixerStation$StationReader", name := "readSetting", desc := "(LMixerStation$State;II)Z" } : Jvm.MethodName)) ∈ UW := uw_t2 3 rfl rfl
theorem mw_245 : (Jvm.Cond.instanceMethod ({ cls := "MixerStation$StationReader", name := "readSetting", desc := "(LMixerStation$State;II)Z" } : Jvm.MethodName)) ∈ UW := uw_t2 5 rfl rfl
theorem mw_246 : (Jvm.Cond.code ({ cls := "MixerStation$StationReader", name := "readSetting", desc := "(LMixerStation$State;II)Z" } : Jvm.MethodName) prog_6_method_5_code (5 : Nat) (Option.some Jvm.ClassFile.FieldType.boolean)) ∈ UW := uw_t2 6 rfl rfl
theorem mw_248 : (Jvm.Cond.static ({ cls := "MixerStation", name := "lowestSetting", desc := "(I)I" } : Jvm.MethodName)) ∈ UW := uw_t2 8 rfl rfl
theorem mw_249 : (Jvm.Cond.code ({ cls := "MixerStation", name := "lowestSetting", desc := "(I)I" } : Jvm.MethodName) prog_1_method_30_code (1 : Nat) (Option.some Jvm.ClassFile.FieldType.int)) ∈ UW := uw_t2 9 rfl rfl
theorem mw_250 : (Jvm.Cond.fieldLink "MixerStation" (342 : Nat) "MixerStation" "LOWEST_SETTINGS" "[I") ∈ UW := uw_t2 10 rfl rfl
theorem mw_253 : (Jvm.Cond.static ({ cls := "MixerStation", name := "highestSetting", desc := "(I)I" } : Jvm.MethodName)) ∈ UW := uw_t2 13 rfl rfl
theorem mw_254 : (Jvm.Cond.code ({ cls := "MixerStation", name := "highestSetting", desc := "(I)I" } : Jvm.MethodName) prog_1_method_31_code (1 : Nat) (Option.some Jvm.ClassFile.FieldType.int)) ∈ UW := uw_t2 14 rfl rfl
theorem mw_255 : (Jvm.Cond.fieldLink "MixerStation" (345 : Nat) "MixerStation" "HIGHEST_SETTINGS" "[I") ∈ UW := uw_t2 15 rfl rfl
theorem mw_257 : (Jvm.Cond.methodLink "MixerStation$StationReader" (52 : Nat) ({ cls := "MixerStation$StationReader", name := "readNumber", desc := "(III)I" } : Jvm.MethodName)) ∈ UW := uw_t2 17 rfl rfl
theorem mw_259 : (Jvm.Cond.instanceMethod ({ cls := "MixerStation$StationReader", name := "readNumber", desc := "(III)I" } : Jvm.MethodName)) ∈ UW := uw_t2 19 rfl rfl
theorem mw_260 : (Jvm.Cond.code ({ cls := "MixerStation$StationReader", name := "readNumber", desc := "(III)I" } : Jvm.MethodName) prog_6_method_8_code (9 : Nat) (Option.some Jvm.ClassFile.FieldType.int)) ∈ UW := uw_t2 20 rfl rfl
theorem mw_261 : (Jvm.Cond.methodLink "MixerStation$StationReader" (63 : Nat) ({ cls := "MixerStation$State", name := "changeSetting", desc := "(II)V" } : Jvm.MethodName)) ∈ UW := uw_t2 21 rfl rfl
theorem mw_262 : (Jvm.Cond.instanceMethod ({ cls := "MixerStation$State", name := "changeSetting", desc := "(II)V" } : Jvm.MethodName)) ∈ UW := uw_t2 22 rfl rfl
theorem mw_263 : (Jvm.Cond.selects "MixerStation$State" ({ cls := "MixerStation$State", name := "changeSetting", desc := "(II)V" } : Jvm.MethodName) ({ cls := "MixerStation$State", name := "changeSetting", desc := "(II)V" } : Jvm.MethodName)) ∈ UW := uw_t2 23 rfl rfl
theorem mw_264 : (Jvm.Cond.code ({ cls := "MixerStation$State", name := "changeSetting", desc := "(II)V" } : Jvm.MethodName) prog_5_method_8_code (3 : Nat) (Option.none : Option Jvm.ClassFile.FieldType)) ∈ UW := uw_t2 24 rfl rfl
theorem mw_265 : (Jvm.Cond.methodLink "MixerStation$StationReader" (31 : Nat) ({ cls := "MixerStation$StationReader", name := "readPart", desc := "(LMixerStation$State;)Z" } : Jvm.MethodName)) ∈ UW := uw_t2 25 rfl rfl
theorem mw_267 : (Jvm.Cond.instanceMethod ({ cls := "MixerStation$StationReader", name := "readPart", desc := "(LMixerStation$State;)Z" } : Jvm.MethodName)) ∈ UW := uw_t2 27 rfl rfl
theorem mw_268 : (Jvm.Cond.code ({ cls := "MixerStation$StationReader", name := "readPart", desc := "(LMixerStation$State;)Z" } : Jvm.MethodName) prog_6_method_4_code (4 : Nat) (Option.some Jvm.ClassFile.FieldType.boolean)) ∈ UW := uw_t2 28 rfl rfl
theorem mw_269 : (Jvm.Cond.methodLink "MixerStation$StationReader" (42 : Nat) ({ cls := "MixerStation$State", name := "isFull", desc := "()Z" } : Jvm.MethodName)) ∈ UW := uw_t2 29 rfl rfl
theorem mw_270 : (Jvm.Cond.instanceMethod ({ cls := "MixerStation$State", name := "isFull", desc := "()Z" } : Jvm.MethodName)) ∈ UW := uw_t2 30 rfl rfl
theorem mw_271 : (Jvm.Cond.selects "MixerStation$State" ({ cls := "MixerStation$State", name := "isFull", desc := "()Z" } : Jvm.MethodName) ({ cls := "MixerStation$State", name := "isFull", desc := "()Z" } : Jvm.MethodName)) ∈ UW := uw_t2 31 rfl rfl
theorem mw_272 : (Jvm.Cond.code ({ cls := "MixerStation$State", name := "isFull", desc := "()Z" } : Jvm.MethodName) prog_5_method_6_code (1 : Nat) (Option.some Jvm.ClassFile.FieldType.boolean)) ∈ UW := uw_t2 32 rfl rfl
theorem mw_273 : (Jvm.Cond.methodLink "MixerStation$StationReader" (46 : Nat) ({ cls := "MixerStation$StationReader", name := "readRoom", desc := "(LMixerStation$State;)Z" } : Jvm.MethodName)) ∈ UW := uw_t2 33 rfl rfl
theorem mw_275 : (Jvm.Cond.instanceMethod ({ cls := "MixerStation$StationReader", name := "readRoom", desc := "(LMixerStation$State;)Z" } : Jvm.MethodName)) ∈ UW := uw_t2 35 rfl rfl
theorem mw_276 : (Jvm.Cond.code ({ cls := "MixerStation$StationReader", name := "readRoom", desc := "(LMixerStation$State;)Z" } : Jvm.MethodName) prog_6_method_6_code (6 : Nat) (Option.some Jvm.ClassFile.FieldType.boolean)) ∈ UW := uw_t2 36 rfl rfl
theorem mw_277 : (Jvm.Cond.methodLink "MixerStation$StationReader" (67 : Nat) ({ cls := "MixerStation$State", name := "buildRoom", desc := "(IIII)V" } : Jvm.MethodName)) ∈ UW := uw_t2 37 rfl rfl
theorem mw_278 : (Jvm.Cond.instanceMethod ({ cls := "MixerStation$State", name := "buildRoom", desc := "(IIII)V" } : Jvm.MethodName)) ∈ UW := uw_t2 38 rfl rfl
theorem mw_279 : (Jvm.Cond.selects "MixerStation$State" ({ cls := "MixerStation$State", name := "buildRoom", desc := "(IIII)V" } : Jvm.MethodName) ({ cls := "MixerStation$State", name := "buildRoom", desc := "(IIII)V" } : Jvm.MethodName)) ∈ UW := uw_t2 39 rfl rfl
theorem mw_280 : (Jvm.Cond.code ({ cls := "MixerStation$State", name := "buildRoom", desc := "(IIII)V" } : Jvm.MethodName) prog_5_method_10_code (7 : Nat) (Option.none : Option Jvm.ClassFile.FieldType)) ∈ UW := uw_t2 40 rfl rfl
theorem mw_281 : (Jvm.Cond.methodLink "MixerStation$State" (93 : Nat) ({ cls := "MixerStation$Room", name := "begin", desc := "(III)V" } : Jvm.MethodName)) ∈ UW := uw_t2 41 rfl rfl
theorem mw_282 : (Jvm.Cond.instanceMethod ({ cls := "MixerStation$Room", name := "begin", desc := "(III)V" } : Jvm.MethodName)) ∈ UW := uw_t2 42 rfl rfl
theorem mw_283 : (Jvm.Cond.selects "MixerStation$Room" ({ cls := "MixerStation$Room", name := "begin", desc := "(III)V" } : Jvm.MethodName) ({ cls := "MixerStation$Room", name := "begin", desc := "(III)V" } : Jvm.MethodName)) ∈ UW := uw_t2 43 rfl rfl
theorem mw_284 : (Jvm.Cond.code ({ cls := "MixerStation$Room", name := "begin", desc := "(III)V" } : Jvm.MethodName) prog_4_method_3_code (4 : Nat) (Option.none : Option Jvm.ClassFile.FieldType)) ∈ UW := uw_t2 44 rfl rfl
theorem mw_285 : (Jvm.Cond.methodLink "MixerStation$State" (97 : Nat) ({ cls := "MixerStation$State", name := "move", desc := "(III)V" } : Jvm.MethodName)) ∈ UW := uw_t2 45 rfl rfl
theorem mw_287 : (Jvm.Cond.instanceMethod ({ cls := "MixerStation$State", name := "move", desc := "(III)V" } : Jvm.MethodName)) ∈ UW := uw_t2 47 rfl rfl
theorem mw_288 : (Jvm.Cond.code ({ cls := "MixerStation$State", name := "move", desc := "(III)V" } : Jvm.MethodName) prog_5_method_33_code (4 : Nat) (Option.none : Option Jvm.ClassFile.FieldType)) ∈ UW := uw_t2 48 rfl rfl
theorem mw_289 : (Jvm.Cond.methodLink "MixerStation$State" (179 : Nat) ({ cls := "MixerStation$State", name := "addHeat", desc := "(II)V" } : Jvm.MethodName)) ∈ UW := uw_t2 49 rfl rfl
theorem mw_291 : (Jvm.Cond.instanceMethod ({ cls := "MixerStation$State", name := "addHeat", desc := "(II)V" } : Jvm.MethodName)) ∈ UW := uw_t2 51 rfl rfl
theorem mw_292 : (Jvm.Cond.code ({ cls := "MixerStation$State", name := "addHeat", desc := "(II)V" } : Jvm.MethodName) prog_5_method_34_code (3 : Nat) (Option.none : Option Jvm.ClassFile.FieldType)) ∈ UW := uw_t2 52 rfl rfl
theorem mw_293 : (Jvm.Cond.methodLink "MixerStation$State" (183 : Nat) ({ cls := "MixerStation$Ledger", name := "note", desc := "(III)V" } : Jvm.MethodName)) ∈ UW := uw_t2 53 rfl rfl
theorem mw_294 : (Jvm.Cond.instanceMethod ({ cls := "MixerStation$Ledger", name := "note", desc := "(III)V" } : Jvm.MethodName)) ∈ UW := uw_t2 54 rfl rfl
theorem mw_295 : (Jvm.Cond.selects "MixerStation$Ledger" ({ cls := "MixerStation$Ledger", name := "note", desc := "(III)V" } : Jvm.MethodName) ({ cls := "MixerStation$Ledger", name := "note", desc := "(III)V" } : Jvm.MethodName)) ∈ UW := uw_t2 55 rfl rfl
theorem mw_296 : (Jvm.Cond.code ({ cls := "MixerStation$Ledger", name := "note", desc := "(III)V" } : Jvm.MethodName) prog_3_method_4_code (5 : Nat) (Option.none : Option Jvm.ClassFile.FieldType)) ∈ UW := uw_t2 56 rfl rfl
theorem mw_297 : (Jvm.Cond.methodLink "MixerStation$StationReader" (49 : Nat) ({ cls := "MixerStation$StationReader", name := "readOutside", desc := "(LMixerStation$State;)Z" } : Jvm.MethodName)) ∈ UW := uw_t2 57 rfl rfl
theorem mw_299 : (Jvm.Cond.instanceMethod ({ cls := "MixerStation$StationReader", name := "readOutside", desc := "(LMixerStation$State;)Z" } : Jvm.MethodName)) ∈ UW := uw_t2 59 rfl rfl
theorem mw_300 : (Jvm.Cond.code ({ cls := "MixerStation$StationReader", name := "readOutside", desc := "(LMixerStation$State;)Z" } : Jvm.MethodName) prog_6_method_7_code (4 : Nat) (Option.some Jvm.ClassFile.FieldType.boolean)) ∈ UW := uw_t2 60 rfl rfl
theorem mw_301 : (Jvm.Cond.classLink "MixerStation" (49 : Nat) "java/lang/IllegalStateException") ∈ UW := uw_t2 61 rfl rfl
theorem mw_302 : (Jvm.Cond.instantiable "java/lang/IllegalStateException" (6 : Nat)) ∈ UW := uw_t2 62 rfl rfl
theorem mw_310 : (Jvm.Cond.selects "java/lang/IllegalStateException" ({ cls := "java/lang/Throwable", name := "fillInStackTrace", desc := "(I)Ljava/lang/Throwable;" } : Jvm.MethodName) ({ cls := "java/lang/Throwable", name := "fillInStackTrace", desc := "(I)Ljava/lang/Throwable;" } : Jvm.MethodName)) ∈ UW := uw_t2 70 rfl rfl
theorem mw_311 : (Jvm.Cond.selects "java/lang/IllegalStateException" ({ cls := "java/lang/Throwable", name := "fillInStackTrace", desc := "()Ljava/lang/Throwable;" } : Jvm.MethodName) ({ cls := "java/lang/Throwable", name := "fillInStackTrace", desc := "()Ljava/lang/Throwable;" } : Jvm.MethodName)) ∈ UW := uw_t2 71 rfl rfl
theorem mw_312 : (Jvm.Cond.lays "java/lang/IllegalStateException" "java/lang/Throwable" "cause" "Ljava/lang/Throwable;") ∈ UW := uw_t2 72 rfl rfl
theorem mw_313 : (Jvm.Cond.lays "java/lang/Throwable" "java/lang/Throwable" "cause" "Ljava/lang/Throwable;") ∈ UW := uw_t2 73 rfl rfl
theorem mw_314 : (Jvm.Cond.lays "java/lang/IllegalStateException" "java/lang/Throwable" "stackTrace" "[Ljava/lang/StackTraceElement;") ∈ UW := uw_t2 74 rfl rfl
theorem mw_315 : (Jvm.Cond.lays "java/lang/Throwable" "java/lang/Throwable" "stackTrace" "[Ljava/lang/StackTraceElement;") ∈ UW := uw_t2 75 rfl rfl
theorem mw_316 : (Jvm.Cond.lays "java/lang/IllegalStateException" "java/lang/Throwable" "suppressedExceptions" "Ljava/util/List;") ∈ UW := uw_t2 76 rfl rfl
theorem mw_317 : (Jvm.Cond.lays "java/lang/Throwable" "java/lang/Throwable" "suppressedExceptions" "Ljava/util/List;") ∈ UW := uw_t2 77 rfl rfl
theorem mw_318 : (Jvm.Cond.lays "java/lang/IllegalStateException" "java/lang/Throwable" "detailMessage" "Ljava/lang/String;") ∈ UW := uw_t2 78 rfl rfl
theorem mw_319 : (Jvm.Cond.lays "java/lang/Throwable" "java/lang/Throwable" "detailMessage" "Ljava/lang/String;") ∈ UW := uw_t2 79 rfl rfl
theorem mw_320 : (Jvm.Cond.lays "java/lang/IllegalStateException" "java/lang/Throwable" "backtrace" "Ljava/lang/Object;") ∈ UW := uw_t2 80 rfl rfl
theorem mw_321 : (Jvm.Cond.lays "java/lang/Throwable" "java/lang/Throwable" "backtrace" "Ljava/lang/Object;") ∈ UW := uw_t2 81 rfl rfl
theorem mw_322 : (Jvm.Cond.fieldLink "java/lang/Throwable" (198 : Nat) "java/lang/Throwable" "backtrace" "Ljava/lang/Object;") ∈ UW := uw_t2 82 rfl rfl
theorem mw_324 : (Jvm.Cond.instanceMethod ({ cls := "java/lang/Throwable", name := "<init>", desc := "()V" } : Jvm.MethodName)) ∈ UW := uw_t2 84 rfl rfl
theorem mw_325 : (Jvm.Cond.code ({ cls := "java/lang/Throwable", name := "<init>", desc := "()V" } : Jvm.MethodName) prog_17_method_1_code (1 : Nat) (Option.none : Option Jvm.ClassFile.FieldType)) ∈ UW := uw_t2 85 rfl rfl
theorem mw_326 : (Jvm.Cond.methodLink "java/lang/Throwable" (1 : Nat) ({ cls := "java/lang/Object", name := "<init>", desc := "()V" } : Jvm.MethodName)) ∈ UW := uw_t2 86 rfl rfl
theorem mw_327 : (Jvm.Cond.fieldLink "java/lang/Throwable" (13 : Nat) "java/lang/Throwable" "UNASSIGNED_STACK" "[Ljava/lang/StackTraceElement;") ∈ UW := uw_t2 87 rfl rfl
theorem mw_329 : (Jvm.Cond.fieldLink "java/lang/Throwable" (20 : Nat) "java/lang/Throwable" "SUPPRESSED_SENTINEL" "Ljava/util/List;") ∈ UW := uw_t2 89 rfl rfl
theorem mw_331 : (Jvm.Cond.methodLink "java/lang/Throwable" (27 : Nat) ({ cls := "java/lang/Throwable", name := "fillInStackTrace", desc := "()Ljava/lang/Throwable;" } : Jvm.MethodName)) ∈ UW := uw_t2 91 rfl rfl
theorem mw_332 : (Jvm.Cond.instanceMethod ({ cls := "java/lang/Throwable", name := "fillInStackTrace", desc := "()Ljava/lang/Throwable;" } : Jvm.MethodName)) ∈ UW := uw_t2 92 rfl rfl
theorem mw_334 : (Jvm.Cond.selects "java/lang/IllegalArgumentException" ({ cls := "java/lang/Throwable", name := "fillInStackTrace", desc := "()Ljava/lang/Throwable;" } : Jvm.MethodName) ({ cls := "java/lang/Throwable", name := "fillInStackTrace", desc := "()Ljava/lang/Throwable;" } : Jvm.MethodName)) ∈ UW := uw_t2 94 rfl rfl
theorem mw_335 : (Jvm.Cond.selects "java/lang/IndexOutOfBoundsException" ({ cls := "java/lang/Throwable", name := "fillInStackTrace", desc := "()Ljava/lang/Throwable;" } : Jvm.MethodName) ({ cls := "java/lang/Throwable", name := "fillInStackTrace", desc := "()Ljava/lang/Throwable;" } : Jvm.MethodName)) ∈ UW := uw_t2 95 rfl rfl
theorem mw_337 : (Jvm.Cond.methodLink "java/lang/Throwable" (202 : Nat) ({ cls := "java/lang/Throwable", name := "fillInStackTrace", desc := "(I)Ljava/lang/Throwable;" } : Jvm.MethodName)) ∈ UW := uw_t2 97 rfl rfl
theorem mw_339 : (Jvm.Cond.instanceMethod ({ cls := "java/lang/Throwable", name := "fillInStackTrace", desc := "(I)Ljava/lang/Throwable;" } : Jvm.MethodName)) ∈ UW := uw_t2 99 rfl rfl
theorem mw_340 : (Jvm.Cond.instantiable "java/lang/Throwable" (6 : Nat)) ∈ UW := uw_t2 100 rfl rfl
theorem mw_341 : (Jvm.Cond.native ({ cls := "java/lang/Throwable", name := "fillInStackTrace", desc := "(I)Ljava/lang/Throwable;" } : Jvm.MethodName)) ∈ UW := uw_t2 101 rfl rfl
theorem mw_343 : (Jvm.Cond.methodLink "MixerStation" (53 : Nat) ({ cls := "java/lang/IllegalStateException", name := "<init>", desc := "(Ljava/lang/String;)V" } : Jvm.MethodName)) ∈ UW := uw_t2 103 rfl rfl
theorem mw_344 : (Jvm.Cond.instanceMethod ({ cls := "java/lang/IllegalStateException", name := "<init>", desc := "(Ljava/lang/String;)V" } : Jvm.MethodName)) ∈ UW := uw_t2 104 rfl rfl
theorem mw_345 : (Jvm.Cond.code ({ cls := "java/lang/IllegalStateException", name := "<init>", desc := "(Ljava/lang/String;)V" } : Jvm.MethodName) prog_11_method_2_code (2 : Nat) (Option.none : Option Jvm.ClassFile.FieldType)) ∈ UW := uw_t2 105 rfl rfl
theorem mw_346 : (Jvm.Cond.methodLink "java/lang/IllegalStateException" (7 : Nat) ({ cls := "java/lang/RuntimeException", name := "<init>", desc := "(Ljava/lang/String;)V" } : Jvm.MethodName)) ∈ UW := uw_t2 106 rfl rfl
theorem mw_347 : (Jvm.Cond.instanceMethod ({ cls := "java/lang/RuntimeException", name := "<init>", desc := "(Ljava/lang/String;)V" } : Jvm.MethodName)) ∈ UW := uw_t2 107 rfl rfl
theorem mw_348 : (Jvm.Cond.code ({ cls := "java/lang/RuntimeException", name := "<init>", desc := "(Ljava/lang/String;)V" } : Jvm.MethodName) prog_14_method_2_code (2 : Nat) (Option.none : Option Jvm.ClassFile.FieldType)) ∈ UW := uw_t2 108 rfl rfl
theorem mw_349 : (Jvm.Cond.methodLink "java/lang/RuntimeException" (7 : Nat) ({ cls := "java/lang/Exception", name := "<init>", desc := "(Ljava/lang/String;)V" } : Jvm.MethodName)) ∈ UW := uw_t2 109 rfl rfl
theorem mw_350 : (Jvm.Cond.instanceMethod ({ cls := "java/lang/Exception", name := "<init>", desc := "(Ljava/lang/String;)V" } : Jvm.MethodName)) ∈ UW := uw_t2 110 rfl rfl
theorem mw_351 : (Jvm.Cond.code ({ cls := "java/lang/Exception", name := "<init>", desc := "(Ljava/lang/String;)V" } : Jvm.MethodName) prog_9_method_2_code (2 : Nat) (Option.none : Option Jvm.ClassFile.FieldType)) ∈ UW := uw_t2 111 rfl rfl
theorem mw_352 : (Jvm.Cond.methodLink "java/lang/Exception" (7 : Nat) ({ cls := "java/lang/Throwable", name := "<init>", desc := "(Ljava/lang/String;)V" } : Jvm.MethodName)) ∈ UW := uw_t2 112 rfl rfl
theorem mw_353 : (Jvm.Cond.instanceMethod ({ cls := "java/lang/Throwable", name := "<init>", desc := "(Ljava/lang/String;)V" } : Jvm.MethodName)) ∈ UW := uw_t2 113 rfl rfl
theorem mw_354 : (Jvm.Cond.code ({ cls := "java/lang/Throwable", name := "<init>", desc := "(Ljava/lang/String;)V" } : Jvm.MethodName) prog_17_method_2_code (2 : Nat) (Option.none : Option Jvm.ClassFile.FieldType)) ∈ UW := uw_t2 114 rfl rfl
theorem mw_355 : (Jvm.Cond.fieldLink "java/lang/Throwable" (198 : Nat) "java/lang/Throwable" "backtrace" "Ljava/lang/Object;") ∈ UW := uw_t2 115 rfl rfl
theorem mw_356 : (Jvm.Cond.fieldLink "java/lang/Throwable" (31 : Nat) "java/lang/Throwable" "detailMessage" "Ljava/lang/String;") ∈ UW := uw_t2 116 rfl rfl
theorem mw_357 : (Jvm.Cond.fieldLink "java/lang/Throwable" (7 : Nat) "java/lang/Throwable" "cause" "Ljava/lang/Throwable;") ∈ UW := uw_t2 117 rfl rfl
theorem mw_358 : (Jvm.Cond.fieldLink "java/lang/Throwable" (17 : Nat) "java/lang/Throwable" "stackTrace" "[Ljava/lang/StackTraceElement;") ∈ UW := uw_t2 118 rfl rfl
theorem mw_359 : (Jvm.Cond.fieldLink "java/lang/Throwable" (24 : Nat) "java/lang/Throwable" "suppressedExceptions" "Ljava/util/List;") ∈ UW := uw_t2 119 rfl rfl
theorem mw_364 : (Jvm.Cond.lays "java/lang/IllegalStateException" "java/lang/Throwable" "depth" "I") ∈ UW := uw_t2 124 rfl rfl
theorem mw_368 : (Jvm.Cond.arrayClass Jvm.ClassFile.FieldType.byte) ∈ UW := uw_t2 128 rfl rfl
theorem mw_369 : (Jvm.Cond.methodLink "MixerStation" (69 : Nat) ({ cls := "MixerStation$State", name := "copyFrom", desc := "(LMixerStation$State;)V" } : Jvm.MethodName)) ∈ UW := uw_t2 129 rfl rfl
theorem mw_370 : (Jvm.Cond.instanceMethod ({ cls := "MixerStation$State", name := "copyFrom", desc := "(LMixerStation$State;)V" } : Jvm.MethodName)) ∈ UW := uw_t2 130 rfl rfl
theorem mw_371 : (Jvm.Cond.selects "MixerStation$State" ({ cls := "MixerStation$State", name := "copyFrom", desc := "(LMixerStation$State;)V" } : Jvm.MethodName) ({ cls := "MixerStation$State", name := "copyFrom", desc := "(LMixerStation$State;)V" } : Jvm.MethodName)) ∈ UW := uw_t2 131 rfl rfl
theorem mw_372 : (Jvm.Cond.code ({ cls := "MixerStation$State", name := "copyFrom", desc := "(LMixerStation$State;)V" } : Jvm.MethodName) prog_5_method_3_code (3 : Nat) (Option.none : Option Jvm.ClassFile.FieldType)) ∈ UW := uw_t2 132 rfl rfl
theorem mw_373 : (Jvm.Cond.methodLink "MixerStation$State" (79 : Nat) ({ cls := "MixerStation$Ledger", name := "copyFrom", desc := "(LMixerStation$Ledger;)V" } : Jvm.MethodName)) ∈ UW := uw_t2 133 rfl rfl
theorem mw_374 : (Jvm.Cond.instanceMethod ({ cls := "MixerStation$Ledger", name := "copyFrom", desc := "(LMixerStation$Ledger;)V" } : Jvm.MethodName)) ∈ UW := uw_t2 134 rfl rfl
theorem mw_375 : (Jvm.Cond.selects "MixerStation$Ledger" ({ cls := "MixerStation$Ledger", name := "copyFrom", desc := "(LMixerStation$Ledger;)V" } : Jvm.MethodName) ({ cls := "MixerStation$Ledger", name := "copyFrom", desc := "(LMixerStation$Ledger;)V" } : Jvm.MethodName)) ∈ UW := uw_t2 135 rfl rfl
theorem mw_376 : (Jvm.Cond.code ({ cls := "MixerStation$Ledger", name := "copyFrom", desc := "(LMixerStation$Ledger;)V" } : Jvm.MethodName) prog_3_method_2_code (2 : Nat) (Option.none : Option Jvm.ClassFile.FieldType)) ∈ UW := uw_t2 136 rfl rfl
theorem mw_377 : (Jvm.Cond.methodLink "MixerStation$Ledger" (21 : Nat) ({ cls := "java/lang/System", name := "arraycopy", desc := "(Ljava/lang/Object;ILjava/lang/Object;II)V" } : Jvm.MethodName)) ∈ UW := uw_t2 137 rfl rfl
theorem mw_378 : (Jvm.Cond.methodLink "MixerStation$State" (83 : Nat) ({ cls := "MixerStation$Room", name := "copyFrom", desc := "(LMixerStation$Room;)V" } : Jvm.MethodName)) ∈ UW := uw_t2 138 rfl rfl
theorem mw_379 : (Jvm.Cond.instanceMethod ({ cls := "MixerStation$Room", name := "copyFrom", desc := "(LMixerStation$Room;)V" } : Jvm.MethodName)) ∈ UW := uw_t2 139 rfl rfl
theorem mw_380 : (Jvm.Cond.selects "MixerStation$Room" ({ cls := "MixerStation$Room", name := "copyFrom", desc := "(LMixerStation$Room;)V" } : Jvm.MethodName) ({ cls := "MixerStation$Room", name := "copyFrom", desc := "(LMixerStation$Room;)V" } : Jvm.MethodName)) ∈ UW := uw_t2 140 rfl rfl
theorem mw_381 : (Jvm.Cond.code ({ cls := "MixerStation$Room", name := "copyFrom", desc := "(LMixerStation$Room;)V" } : Jvm.MethodName) prog_4_method_2_code (2 : Nat) (Option.none : Option Jvm.ClassFile.FieldType)) ∈ UW := uw_t2 141 rfl rfl
theorem mw_382 : (Jvm.Cond.methodLink "MixerStation" (73 : Nat) ({ cls := "MixerStation$History", name := "forgetAll", desc := "()V" } : Jvm.MethodName)) ∈ UW := uw_t2 142 rfl rfl
theorem mw_383 : (Jvm.Cond.instanceMethod ({ cls := "MixerStation$History", name := "forgetAll", desc := "()V" } : Jvm.MethodName)) ∈ UW := uw_t2 143 rfl rfl
theorem mw_384 : (Jvm.Cond.selects "MixerStation$History" ({ cls := "MixerStation$History", name := "forgetAll", desc := "()V" } : Jvm.MethodName) ({ cls := "MixerStation$History", name := "forgetAll", desc := "()V" } : Jvm.MethodName)) ∈ UW := uw_t2 144 rfl rfl
theorem mw_385 : (Jvm.Cond.code ({ cls := "MixerStation$History", name := "forgetAll", desc := "()V" } : Jvm.MethodName) prog_2_method_3_code (1 : Nat) (Option.none : Option Jvm.ClassFile.FieldType)) ∈ UW := uw_t2 145 rfl rfl
theorem mw_386 : (Jvm.Cond.constantLong "MixerStationLaw" (21 : Nat) (-9000000000000000003 : Int64)) ∈ UW := uw_t2 146 rfl rfl
theorem mw_387 : (Jvm.Cond.methodLink "MixerStationLaw" (163 : Nat) ({ cls := "MixerStationLaw", name := "save", desc := "(LMixerStation;I)J" } : Jvm.MethodName)) ∈ UW := uw_t2 147 rfl rfl
theorem mw_388 : (Jvm.Cond.static ({ cls := "MixerStationLaw", name := "save", desc := "(LMixerStation;I)J" } : Jvm.MethodName)) ∈ UW := uw_t2 148 rfl rfl
theorem mw_389 : (Jvm.Cond.codeWith ({ cls := "MixerStationLaw", name := "save", desc := "(LMixerStation;I)J" } : Jvm.MethodName) method_26_code (3 : Nat) (Option.some Jvm.ClassFile.FieldType.long) [((0 : Nat), (6 : Nat), (7 : Nat), (37 : Nat))]) ∈ UW := uw_t2 149 rfl rfl
theorem mw_390 : (Jvm.Cond.classLink "MixerStationLaw" (37 : Nat) "java/lang/IndexOutOfBoundsException") ∈ UW := uw_t2 150 rfl rfl
theorem mw_391 : (Jvm.Cond.methodLink "MixerStationLaw" (97 : Nat) ({ cls := "MixerStation", name := "save", desc := "(I)I" } : Jvm.MethodName)) ∈ UW := uw_t2 151 rfl rfl
theorem mw_392 : (Jvm.Cond.instanceMethod ({ cls := "MixerStation", name := "save", desc := "(I)I" } : Jvm.MethodName)) ∈ UW := uw_t2 152 rfl rfl
theorem mw_393 : (Jvm.Cond.selects "MixerStation" ({ cls := "MixerStation", name := "save", desc := "(I)I" } : Jvm.MethodName) ({ cls := "MixerStation", name := "save", desc := "(I)I" } : Jvm.MethodName)) ∈ UW := uw_t2 153 rfl rfl
theorem mw_394 : (Jvm.Cond.code ({ cls := "MixerStation", name := "save", desc := "(I)I" } : Jvm.MethodName) prog_1_method_28_code (2 : Nat) (Option.some Jvm.ClassFile.FieldType.int)) ∈ UW := uw_t2 154 rfl rfl
theorem mw_395 : (Jvm.Cond.classLink "MixerStation" (135 : Nat) "java/lang/IndexOutOfBoundsException") ∈ UW := uw_t2 155 rfl rfl
theorem mw_396 : (Jvm.Cond.instantiable "java/lang/IndexOutOfBoundsException" (6 : Nat)) ∈ UW := uw_t2 156 rfl rfl
theorem mw_398 : (Jvm.Cond.selects "java/lang/IndexOutOfBoundsException" ({ cls := "java/lang/Throwable", name := "fillInStackTrace", desc := "(I)Ljava/lang/Throwable;" } : Jvm.MethodName) ({ cls := "java/lang/Throwable", name := "fillInStackTrace", desc := "(I)Ljava/lang/Throwable;" } : Jvm.MethodName)) ∈ UW := uw_t2 158 rfl rfl
theorem mw_399 : (Jvm.Cond.lays "java/lang/IndexOutOfBoundsException" "java/lang/Throwable" "cause" "Ljava/lang/Throwable;") ∈ UW := uw_t2 159 rfl rfl
theorem mw_400 : (Jvm.Cond.lays "java/lang/IndexOutOfBoundsException" "java/lang/Throwable" "stackTrace" "[Ljava/lang/StackTraceElement;") ∈ UW := uw_t2 160 rfl rfl
theorem mw_401 : (Jvm.Cond.lays "java/lang/IndexOutOfBoundsException" "java/lang/Throwable" "suppressedExceptions" "Ljava/util/List;") ∈ UW := uw_t2 161 rfl rfl
theorem mw_402 : (Jvm.Cond.lays "java/lang/IndexOutOfBoundsException" "java/lang/Throwable" "detailMessage" "Ljava/lang/String;") ∈ UW := uw_t2 162 rfl rfl
theorem mw_403 : (Jvm.Cond.lays "java/lang/IndexOutOfBoundsException" "java/lang/Throwable" "backtrace" "Ljava/lang/Object;") ∈ UW := uw_t2 163 rfl rfl
theorem mw_405 : (Jvm.Cond.methodLink "MixerStation" (139 : Nat) ({ cls := "java/lang/IndexOutOfBoundsException", name := "<init>", desc := "(Ljava/lang/String;)V" } : Jvm.MethodName)) ∈ UW := uw_t2 165 rfl rfl
theorem mw_406 : (Jvm.Cond.instanceMethod ({ cls := "java/lang/IndexOutOfBoundsException", name := "<init>", desc := "(Ljava/lang/String;)V" } : Jvm.MethodName)) ∈ UW := uw_t2 166 rfl rfl
theorem mw_407 : (Jvm.Cond.code ({ cls := "java/lang/IndexOutOfBoundsException", name := "<init>", desc := "(Ljava/lang/String;)V" } : Jvm.MethodName) prog_12_method_2_code (2 : Nat) (Option.none : Option Jvm.ClassFile.FieldType)) ∈ UW := uw_t2 167 rfl rfl
theorem mw_408 : (Jvm.Cond.methodLink "java/lang/IndexOutOfBoundsException" (7 : Nat) ({ cls := "java/lang/RuntimeException", name := "<init>", desc := "(Ljava/lang/String;)V" } : Jvm.MethodName)) ∈ UW := uw_t2 168 rfl rfl
theorem mw_409 : (Jvm.Cond.lays "java/lang/IndexOutOfBoundsException" "java/lang/Throwable" "depth" "I") ∈ UW := uw_t2 169 rfl rfl
theorem mw_411 : (Jvm.Cond.constantLong "MixerStationLaw" (39 : Nat) (-9000000000000000001 : Int64)) ∈ UW := uw_t2 171 rfl rfl
theorem mw_412 : (Jvm.Cond.methodLink "MixerStationLaw" (165 : Nat) ({ cls := "MixerStationLaw", name := "restore", desc := "(LMixerStation;I)J" } : Jvm.MethodName)) ∈ UW := uw_t2 172 rfl rfl
theorem mw_413 : (Jvm.Cond.static ({ cls := "MixerStationLaw", name := "restore", desc := "(LMixerStation;I)J" } : Jvm.MethodName)) ∈ UW := uw_t2 173 rfl rfl
theorem mw_414 : (Jvm.Cond.codeWith ({ cls := "MixerStationLaw", name := "restore", desc := "(LMixerStation;I)J" } : Jvm.MethodName) method_27_code (3 : Nat) (Option.some Jvm.ClassFile.FieldType.long) [((0 : Nat), (6 : Nat), (7 : Nat), (37 : Nat)), ((0 : Nat), (6 : Nat), (12 : Nat), (19 : Nat))]) ∈ UW := uw_t2 174 rfl rfl
theorem mw_415 : (Jvm.Cond.methodLink "MixerStationLaw" (100 : Nat) ({ cls := "MixerStation", name := "restore", desc := "(I)I" } : Jvm.MethodName)) ∈ UW := uw_t2 175 rfl rfl
theorem mw_416 : (Jvm.Cond.instanceMethod ({ cls := "MixerStation", name := "restore", desc := "(I)I" } : Jvm.MethodName)) ∈ UW := uw_t2 176 rfl rfl
theorem mw_417 : (Jvm.Cond.selects "MixerStation" ({ cls := "MixerStation", name := "restore", desc := "(I)I" } : Jvm.MethodName) ({ cls := "MixerStation", name := "restore", desc := "(I)I" } : Jvm.MethodName)) ∈ UW := uw_t2 177 rfl rfl
theorem mw_418 : (Jvm.Cond.code ({ cls := "MixerStation", name := "restore", desc := "(I)I" } : Jvm.MethodName) prog_1_method_29_code (2 : Nat) (Option.some Jvm.ClassFile.FieldType.int)) ∈ UW := uw_t2 178 rfl rfl
theorem mw_420 : (Jvm.Cond.methodLink "MixerStationLaw" (232 : Nat) ({ cls := "MixerStationLaw", name := "errors", desc := "(LMixerStation;)Z" } : Jvm.MethodName)) ∈ UW := uw_t2 180 rfl rfl
theorem mw_421 : (Jvm.Cond.static ({ cls := "MixerStationLaw", name := "errors", desc := "(LMixerStation;)Z" } : Jvm.MethodName)) ∈ UW := uw_t2 181 rfl rfl
theorem mw_422 : (Jvm.Cond.code ({ cls := "MixerStationLaw", name := "errors", desc := "(LMixerStation;)Z" } : Jvm.MethodName) method_29_code (5 : Nat) (Option.some Jvm.ClassFile.FieldType.boolean)) ∈ UW := uw_t2 182 rfl rfl
theorem mw_423 : (Jvm.Cond.methodLink "MixerStationLaw" (123 : Nat) ({ cls := "MixerStationLaw", name := "now", desc := "(LMixerStation;)J" } : Jvm.MethodName)) ∈ UW := uw_t2 183 rfl rfl
theorem mw_424 : (Jvm.Cond.static ({ cls := "MixerStationLaw", name := "now", desc := "(LMixerStation;)J" } : Jvm.MethodName)) ∈ UW := uw_t2 184 rfl rfl
theorem mw_425 : (Jvm.Cond.code ({ cls := "MixerStationLaw", name := "now", desc := "(LMixerStation;)J" } : Jvm.MethodName) method_28_code (5 : Nat) (Option.some Jvm.ClassFile.FieldType.long)) ∈ UW := uw_t2 185 rfl rfl
theorem mw_426 : (Jvm.Cond.constantLong "MixerStationLaw" (103 : Nat) (17 : Int64)) ∈ UW := uw_t2 186 rfl rfl
theorem mw_427 : (Jvm.Cond.constantLong "MixerStationLaw" (105 : Nat) (31 : Int64)) ∈ UW := uw_t2 187 rfl rfl
theorem mw_428 : (Jvm.Cond.methodLink "MixerStationLaw" (107 : Nat) ({ cls := "MixerStationLaw", name := "about", desc := "(LMixerStation;I)J" } : Jvm.MethodName)) ∈ UW := uw_t2 188 rfl rfl
theorem mw_429 : (Jvm.Cond.static ({ cls := "MixerStationLaw", name := "about", desc := "(LMixerStation;I)J" } : Jvm.MethodName)) ∈ UW := uw_t2 189 rfl rfl
theorem mw_430 : (Jvm.Cond.codeWith ({ cls := "MixerStationLaw", name := "about", desc := "(LMixerStation;I)J" } : Jvm.MethodName) method_6_code (3 : Nat) (Option.some Jvm.ClassFile.FieldType.long) [((0 : Nat), (6 : Nat), (7 : Nat), (15 : Nat))]) ∈ UW := uw_t2 190 rfl rfl
theorem mw_431 : (Jvm.Cond.classLink "MixerStationLaw" (15 : Nat) "java/lang/IllegalArgumentException") ∈ UW := uw_t2 191 rfl rfl
theorem mw_432 : (Jvm.Cond.methodLink "MixerStationLaw" (27 : Nat) ({ cls := "MixerStation", name := "about", desc := "(I)I" } : Jvm.MethodName)) ∈ UW := uw_t2 192 rfl rfl
theorem mw_433 : (Jvm.Cond.instanceMethod ({ cls := "MixerStation", name := "about", desc := "(I)I" } : Jvm.MethodName)) ∈ UW := uw_t2 193 rfl rfl
theorem mw_434 : (Jvm.Cond.selects "MixerStation" ({ cls := "MixerStation", name := "about", desc := "(I)I" } : Jvm.MethodName) ({ cls := "MixerStation", name := "about", desc := "(I)I" } : Jvm.MethodName)) ∈ UW := uw_t2 194 rfl rfl
theorem mw_435 : (Jvm.Cond.code ({ cls := "MixerStation", name := "about", desc := "(I)I" } : Jvm.MethodName) prog_1_method_6_code (2 : Nat) (Option.some Jvm.ClassFile.FieldType.int)) ∈ UW := uw_t2 195 rfl rfl
theorem mw_436 : (Jvm.Cond.methodLink "MixerStation" (101 : Nat) ({ cls := "MixerStation$State", name := "loopShouldHave", desc := "()I" } : Jvm.MethodName)) ∈ UW := uw_t2 196 rfl rfl
theorem mw_437 : (Jvm.Cond.instanceMethod ({ cls := "MixerStation$State", name := "loopShouldHave", desc := "()I" } : Jvm.MethodName)) ∈ UW := uw_t2 197 rfl rfl
theorem mw_438 : (Jvm.Cond.selects "MixerStation$State" ({ cls := "MixerStation$State", name := "loopShouldHave", desc := "()I" } : Jvm.MethodName) ({ cls := "MixerStation$State", name := "loopShouldHave", desc := "()I" } : Jvm.MethodName)) ∈ UW := uw_t2 198 rfl rfl
theorem mw_439 : (Jvm.Cond.code ({ cls := "MixerStation$State", name := "loopShouldHave", desc := "()I" } : Jvm.MethodName) prog_5_method_20_code (1 : Nat) (Option.some Jvm.ClassFile.FieldType.int)) ∈ UW := uw_t2 199 rfl rfl
theorem mw_440 : (Jvm.Cond.methodLink "MixerStation$State" (122 : Nat) ({ cls := "MixerStation$State", name := "settingOf", desc := "(I)I" } : Jvm.MethodName)) ∈ UW := uw_t2 200 rfl rfl
theorem mw_441 : (Jvm.Cond.instanceMethod ({ cls := "MixerStation$State", name := "settingOf", desc := "(I)I" } : Jvm.MethodName)) ∈ UW := uw_t2 201 rfl rfl
theorem mw_442 : (Jvm.Cond.selects "MixerStation$State" ({ cls := "MixerStation$State", name := "settingOf", desc := "(I)I" } : Jvm.MethodName) ({ cls := "MixerStation$State", name := "settingOf", desc := "(I)I" } : Jvm.MethodName)) ∈ UW := uw_t2 202 rfl rfl
theorem mw_443 : (Jvm.Cond.code ({ cls := "MixerStation$State", name := "settingOf", desc := "(I)I" } : Jvm.MethodName) prog_5_method_7_code (2 : Nat) (Option.some Jvm.ClassFile.FieldType.int)) ∈ UW := uw_t2 203 rfl rfl
theorem mw_444 : (Jvm.Cond.methodLink "MixerStation$State" (125 : Nat) ({ cls := "java/lang/Math", name := "min", desc := "(II)I" } : Jvm.MethodName)) ∈ UW := uw_t2 204 rfl rfl
theorem mw_445 : (Jvm.Cond.static ({ cls := "java/lang/Math", name := "min", desc := "(II)I" } : Jvm.MethodName)) ∈ UW := uw_t2 205 rfl rfl
theorem mw_446 : (Jvm.Cond.code ({ cls := "java/lang/Math", name := "min", desc := "(II)I" } : Jvm.MethodName) prog_13_method_69_code (2 : Nat) (Option.some Jvm.ClassFile.FieldType.int)) ∈ UW := uw_t2 206 rfl rfl
theorem mw_447 : (Jvm.Cond.methodLink "MixerStation" (108 : Nat) ({ cls := "MixerStation$State", name := "allHeat", desc := "()I" } : Jvm.MethodName)) ∈ UW := uw_t2 207 rfl rfl
theorem mw_448 : (Jvm.Cond.instanceMethod ({ cls := "MixerStation$State", name := "allHeat", desc := "()I" } : Jvm.MethodName)) ∈ UW := uw_t2 208 rfl rfl
theorem mw_449 : (Jvm.Cond.selects "MixerStation$State" ({ cls := "MixerStation$State", name := "allHeat", desc := "()I" } : Jvm.MethodName) ({ cls := "MixerStation$State", name := "allHeat", desc := "()I" } : Jvm.MethodName)) ∈ UW := uw_t2 209 rfl rfl
theorem mw_450 : (Jvm.Cond.code ({ cls := "MixerStation$State", name := "allHeat", desc := "()I" } : Jvm.MethodName) prog_5_method_14_code (3 : Nat) (Option.some Jvm.ClassFile.FieldType.int)) ∈ UW := uw_t2 210 rfl rfl
theorem mw_451 : (Jvm.Cond.methodLink "MixerStation" (120 : Nat) ({ cls := "MixerStation$State", name := "allComfort", desc := "()I" } : Jvm.MethodName)) ∈ UW := uw_t2 211 rfl rfl
theorem mw_452 : (Jvm.Cond.instanceMethod ({ cls := "MixerStation$State", name := "allComfort", desc := "()I" } : Jvm.MethodName)) ∈ UW := uw_t2 212 rfl rfl
theorem mw_453 : (Jvm.Cond.selects "MixerStation$State" ({ cls := "MixerStation$State", name := "allComfort", desc := "()I" } : Jvm.MethodName) ({ cls := "MixerStation$State", name := "allComfort", desc := "()I" } : Jvm.MethodName)) ∈ UW := uw_t2 213 rfl rfl
theorem mw_454 : (Jvm.Cond.code ({ cls := "MixerStation$State", name := "allComfort", desc := "()I" } : Jvm.MethodName) prog_5_method_15_code (3 : Nat) (Option.some Jvm.ClassFile.FieldType.int)) ∈ UW := uw_t2 214 rfl rfl
theorem mw_455 : (Jvm.Cond.classLink "MixerStation" (38 : Nat) "java/lang/IllegalArgumentException") ∈ UW := uw_t2 215 rfl rfl
theorem mw_456 : (Jvm.Cond.instantiable "java/lang/IllegalArgumentException" (6 : Nat)) ∈ UW := uw_t2 216 rfl rfl
theorem mw_458 : (Jvm.Cond.selects "java/lang/IllegalArgumentException" ({ cls := "java/lang/Throwable", name := "fillInStackTrace", desc := "(I)Ljava/lang/Throwable;" } : Jvm.MethodName) ({ cls := "java/lang/Throwable", name := "fillInStackTrace", desc := "(I)Ljava/lang/Throwable;" } : Jvm.MethodName)) ∈ UW := uw_t2 218 rfl rfl
theorem mw_459 : (Jvm.Cond.lays "java/lang/IllegalArgumentException" "java/lang/Throwable" "cause" "Ljava/lang/Throwable;") ∈ UW := uw_t2 219 rfl rfl
theorem mw_460 : (Jvm.Cond.lays "java/lang/IllegalArgumentException" "java/lang/Throwable" "stackTrace" "[Ljava/lang/StackTraceElement;") ∈ UW := uw_t2 220 rfl rfl
theorem mw_461 : (Jvm.Cond.lays "java/lang/IllegalArgumentException" "java/lang/Throwable" "suppressedExceptions" "Ljava/util/List;") ∈ UW := uw_t2 221 rfl rfl
theorem mw_462 : (Jvm.Cond.lays "java/lang/IllegalArgumentException" "java/lang/Throwable" "detailMessage" "Ljava/lang/String;") ∈ UW := uw_t2 222 rfl rfl
theorem mw_463 : (Jvm.Cond.lays "java/lang/IllegalArgumentException" "java/lang/Throwable" "backtrace" "Ljava/lang/Object;") ∈ UW := uw_t2 223 rfl rfl
theorem mw_465 : (Jvm.Cond.methodLink "MixerStation" (42 : Nat) ({ cls := "java/lang/IllegalArgumentException", name := "<init>", desc := "(Ljava/lang/String;)V" } : Jvm.MethodName)) ∈ UW := uw_t2 225 rfl rfl
theorem mw_466 : (Jvm.Cond.instanceMethod ({ cls := "java/lang/IllegalArgumentException", name := "<init>", desc := "(Ljava/lang/String;)V" } : Jvm.MethodName)) ∈ UW := uw_t2 226 rfl rfl
theorem mw_467 : (Jvm.Cond.code ({ cls := "java/lang/IllegalArgumentException", name := "<init>", desc := "(Ljava/lang/String;)V" } : Jvm.MethodName) prog_10_method_2_code (2 : Nat) (Option.none : Option Jvm.ClassFile.FieldType)) ∈ UW := uw_t2 227 rfl rfl
theorem mw_468 : (Jvm.Cond.methodLink "java/lang/IllegalArgumentException" (7 : Nat) ({ cls := "java/lang/RuntimeException", name := "<init>", desc := "(Ljava/lang/String;)V" } : Jvm.MethodName)) ∈ UW := uw_t2 228 rfl rfl
theorem mw_469 : (Jvm.Cond.lays "java/lang/IllegalArgumentException" "java/lang/Throwable" "depth" "I") ∈ UW := uw_t2 229 rfl rfl
theorem mw_471 : (Jvm.Cond.constantLong "MixerStationLaw" (17 : Nat) (-9000000000000000002 : Int64)) ∈ UW := uw_t2 231 rfl rfl
theorem mw_472 : (Jvm.Cond.methodLink "MixerStationLaw" (112 : Nat) ({ cls := "MixerStationLaw", name := "setting", desc := "(LMixerStation;I)J" } : Jvm.MethodName)) ∈ UW := uw_t2 232 rfl rfl
theorem mw_473 : (Jvm.Cond.static ({ cls := "MixerStationLaw", name := "setting", desc := "(LMixerStation;I)J" } : Jvm.MethodName)) ∈ UW := uw_t2 233 rfl rfl
theorem mw_474 : (Jvm.Cond.codeWith ({ cls := "MixerStationLaw", name := "setting", desc := "(LMixerStation;I)J" } : Jvm.MethodName) method_7_code (3 : Nat) (Option.some Jvm.ClassFile.FieldType.long) [((0 : Nat), (6 : Nat), (7 : Nat), (15 : Nat))]) ∈ UW := uw_t2 234 rfl rfl
theorem mw_475 : (Jvm.Cond.methodLink "MixerStationLaw" (30 : Nat) ({ cls := "MixerStation", name := "setting", desc := "(I)I" } : Jvm.MethodName)) ∈ UW := uw_t2 235 rfl rfl
theorem mw_476 : (Jvm.Cond.instanceMethod ({ cls := "MixerStation", name := "setting", desc := "(I)I" } : Jvm.MethodName)) ∈ UW := uw_t2 236 rfl rfl
theorem mw_477 : (Jvm.Cond.selects "MixerStation" ({ cls := "MixerStation", name := "setting", desc := "(I)I" } : Jvm.MethodName) ({ cls := "MixerStation", name := "setting", desc := "(I)I" } : Jvm.MethodName)) ∈ UW := uw_t2 237 rfl rfl
theorem mw_478 : (Jvm.Cond.code ({ cls := "MixerStation", name := "setting", desc := "(I)I" } : Jvm.MethodName) prog_1_method_7_code (2 : Nat) (Option.some Jvm.ClassFile.FieldType.int)) ∈ UW := uw_t2 238 rfl rfl
theorem mw_480 : (Jvm.Cond.methodLink "MixerStation" (127 : Nat) ({ cls := "MixerStation$State", name := "settingOf", desc := "(I)I" } : Jvm.MethodName)) ∈ UW := uw_t3 0 rfl rfl
theorem mw_481 : (Jvm.Cond.constantLong "MixerStationLaw" (114 : Nat) (2 : Int64)) ∈ UW := uw_t3 1 rfl rfl
theorem mw_482 : (Jvm.Cond.methodLink "MixerStationLaw" (116 : Nat) ({ cls := "MixerStationLaw", name := "place", desc := "(LMixerStation;II)J" } : Jvm.MethodName)) ∈ UW := uw_t3 2 rfl rfl
theorem mw_483 : (Jvm.Cond.static ({ cls := "MixerStationLaw", name := "place", desc := "(LMixerStation;II)J" } : Jvm.MethodName)) ∈ UW := uw_t3 3 rfl rfl
theorem mw_484 : (Jvm.Cond.codeWith ({ cls := "MixerStationLaw", name := "place", desc := "(LMixerStation;II)J" } : Jvm.MethodName) method_8_code (4 : Nat) (Option.some Jvm.ClassFile.FieldType.long) [((0 : Nat), (7 : Nat), (8 : Nat), (37 : Nat)), ((0 : Nat), (7 : Nat), (13 : Nat), (15 : Nat))]) ∈ UW := uw_t3 4 rfl rfl
theorem mw_485 : (Jvm.Cond.methodLink "MixerStationLaw" (33 : Nat) ({ cls := "MixerStation", name := "place", desc := "(II)I" } : Jvm.MethodName)) ∈ UW := uw_t3 5 rfl rfl
theorem mw_486 : (Jvm.Cond.instanceMethod ({ cls := "MixerStation", name := "place", desc := "(II)I" } : Jvm.MethodName)) ∈ UW := uw_t3 6 rfl rfl
theorem mw_487 : (Jvm.Cond.selects "MixerStation" ({ cls := "MixerStation", name := "place", desc := "(II)I" } : Jvm.MethodName) ({ cls := "MixerStation", name := "place", desc := "(II)I" } : Jvm.MethodName)) ∈ UW := uw_t3 7 rfl rfl
theorem mw_488 : (Jvm.Cond.code ({ cls := "MixerStation", name := "place", desc := "(II)I" } : Jvm.MethodName) prog_1_method_8_code (3 : Nat) (Option.some Jvm.ClassFile.FieldType.int)) ∈ UW := uw_t3 8 rfl rfl
theorem mw_489 : (Jvm.Cond.methodLink "MixerStation" (131 : Nat) ({ cls := "MixerStation$State", name := "hasPlace", desc := "(I)Z" } : Jvm.MethodName)) ∈ UW := uw_t3 9 rfl rfl
theorem mw_490 : (Jvm.Cond.instanceMethod ({ cls := "MixerStation$State", name := "hasPlace", desc := "(I)Z" } : Jvm.MethodName)) ∈ UW := uw_t3 10 rfl rfl
theorem mw_491 : (Jvm.Cond.selects "MixerStation$State" ({ cls := "MixerStation$State", name := "hasPlace", desc := "(I)Z" } : Jvm.MethodName) ({ cls := "MixerStation$State", name := "hasPlace", desc := "(I)Z" } : Jvm.MethodName)) ∈ UW := uw_t3 11 rfl rfl
theorem mw_492 : (Jvm.Cond.code ({ cls := "MixerStation$State", name := "hasPlace", desc := "(I)Z" } : Jvm.MethodName) prog_5_method_5_code (2 : Nat) (Option.some Jvm.ClassFile.FieldType.boolean)) ∈ UW := uw_t3 12 rfl rfl
theorem mw_493 : (Jvm.Cond.methodLink "MixerStation$State" (86 : Nat) ({ cls := "MixerStation$State", name := "hasRoom", desc := "(I)Z" } : Jvm.MethodName)) ∈ UW := uw_t3 13 rfl rfl
theorem mw_494 : (Jvm.Cond.instanceMethod ({ cls := "MixerStation$State", name := "hasRoom", desc := "(I)Z" } : Jvm.MethodName)) ∈ UW := uw_t3 14 rfl rfl
theorem mw_495 : (Jvm.Cond.selects "MixerStation$State" ({ cls := "MixerStation$State", name := "hasRoom", desc := "(I)Z" } : Jvm.MethodName) ({ cls := "MixerStation$State", name := "hasRoom", desc := "(I)Z" } : Jvm.MethodName)) ∈ UW := uw_t3 15 rfl rfl
theorem mw_496 : (Jvm.Cond.code ({ cls := "MixerStation$State", name := "hasRoom", desc := "(I)Z" } : Jvm.MethodName) prog_5_method_4_code (2 : Nat) (Option.some Jvm.ClassFile.FieldType.boolean)) ∈ UW := uw_t3 16 rfl rfl
theorem mw_498 : (Jvm.Cond.methodLink "MixerStation" (140 : Nat) ({ cls := "MixerStation$State", name := "heatOf", desc := "(I)I" } : Jvm.MethodName)) ∈ UW := uw_t3 18 rfl rfl
theorem mw_499 : (Jvm.Cond.instanceMethod ({ cls := "MixerStation$State", name := "heatOf", desc := "(I)I" } : Jvm.MethodName)) ∈ UW := uw_t3 19 rfl rfl
theorem mw_500 : (Jvm.Cond.selects "MixerStation$State" ({ cls := "MixerStation$State", name := "heatOf", desc := "(I)I" } : Jvm.MethodName) ({ cls := "MixerStation$State", name := "heatOf", desc := "(I)I" } : Jvm.MethodName)) ∈ UW := uw_t3 20 rfl rfl
theorem mw_501 : (Jvm.Cond.code ({ cls := "MixerStation$State", name := "heatOf", desc := "(I)I" } : Jvm.MethodName) prog_5_method_11_code (2 : Nat) (Option.some Jvm.ClassFile.FieldType.int)) ∈ UW := uw_t3 21 rfl rfl
theorem mw_502 : (Jvm.Cond.methodLink "MixerStation" (143 : Nat) ({ cls := "MixerStation$State", name := "degrees", desc := "(I)I" } : Jvm.MethodName)) ∈ UW := uw_t3 22 rfl rfl
theorem mw_503 : (Jvm.Cond.instanceMethod ({ cls := "MixerStation$State", name := "degrees", desc := "(I)I" } : Jvm.MethodName)) ∈ UW := uw_t3 23 rfl rfl
theorem mw_504 : (Jvm.Cond.selects "MixerStation$State" ({ cls := "MixerStation$State", name := "degrees", desc := "(I)I" } : Jvm.MethodName) ({ cls := "MixerStation$State", name := "degrees", desc := "(I)I" } : Jvm.MethodName)) ∈ UW := uw_t3 24 rfl rfl
theorem mw_505 : (Jvm.Cond.code ({ cls := "MixerStation$State", name := "degrees", desc := "(I)I" } : Jvm.MethodName) prog_5_method_13_code (2 : Nat) (Option.some Jvm.ClassFile.FieldType.int)) ∈ UW := uw_t3 25 rfl rfl
theorem mw_506 : (Jvm.Cond.methodLink "MixerStation$State" (100 : Nat) ({ cls := "java/lang/Math", name := "floorDiv", desc := "(II)I" } : Jvm.MethodName)) ∈ UW := uw_t3 26 rfl rfl
theorem mw_507 : (Jvm.Cond.static ({ cls := "java/lang/Math", name := "floorDiv", desc := "(II)I" } : Jvm.MethodName)) ∈ UW := uw_t3 27 rfl rfl
theorem mw_508 : (Jvm.Cond.code ({ cls := "java/lang/Math", name := "floorDiv", desc := "(II)I" } : Jvm.MethodName) prog_13_method_47_code (3 : Nat) (Option.some Jvm.ClassFile.FieldType.int)) ∈ UW := uw_t3 28 rfl rfl
theorem mw_509 : (Jvm.Cond.methodLink "MixerStation" (146 : Nat) ({ cls := "MixerStation$State", name := "capacityOf", desc := "(I)I" } : Jvm.MethodName)) ∈ UW := uw_t3 29 rfl rfl
theorem mw_510 : (Jvm.Cond.instanceMethod ({ cls := "MixerStation$State", name := "capacityOf", desc := "(I)I" } : Jvm.MethodName)) ∈ UW := uw_t3 30 rfl rfl
theorem mw_511 : (Jvm.Cond.selects "MixerStation$State" ({ cls := "MixerStation$State", name := "capacityOf", desc := "(I)I" } : Jvm.MethodName) ({ cls := "MixerStation$State", name := "capacityOf", desc := "(I)I" } : Jvm.MethodName)) ∈ UW := uw_t3 31 rfl rfl
theorem mw_512 : (Jvm.Cond.code ({ cls := "MixerStation$State", name := "capacityOf", desc := "(I)I" } : Jvm.MethodName) prog_5_method_12_code (2 : Nat) (Option.some Jvm.ClassFile.FieldType.int)) ∈ UW := uw_t3 32 rfl rfl
theorem mw_514 : (Jvm.Cond.methodLink "MixerStationLaw" (119 : Nat) ({ cls := "MixerStationLaw", name := "room", desc := "(LMixerStation;II)J" } : Jvm.MethodName)) ∈ UW := uw_t3 34 rfl rfl
theorem mw_515 : (Jvm.Cond.static ({ cls := "MixerStationLaw", name := "room", desc := "(LMixerStation;II)J" } : Jvm.MethodName)) ∈ UW := uw_t3 35 rfl rfl
theorem mw_516 : (Jvm.Cond.codeWith ({ cls := "MixerStationLaw", name := "room", desc := "(LMixerStation;II)J" } : Jvm.MethodName) method_9_code (4 : Nat) (Option.some Jvm.ClassFile.FieldType.long) [((0 : Nat), (7 : Nat), (8 : Nat), (37 : Nat)), ((0 : Nat), (7 : Nat), (13 : Nat), (15 : Nat))]) ∈ UW := uw_t3 36 rfl rfl
theorem mw_517 : (Jvm.Cond.methodLink "MixerStationLaw" (41 : Nat) ({ cls := "MixerStation", name := "room", desc := "(II)I" } : Jvm.MethodName)) ∈ UW := uw_t3 37 rfl rfl
theorem mw_518 : (Jvm.Cond.instanceMethod ({ cls := "MixerStation", name := "room", desc := "(II)I" } : Jvm.MethodName)) ∈ UW := uw_t3 38 rfl rfl
theorem mw_519 : (Jvm.Cond.selects "MixerStation" ({ cls := "MixerStation", name := "room", desc := "(II)I" } : Jvm.MethodName) ({ cls := "MixerStation", name := "room", desc := "(II)I" } : Jvm.MethodName)) ∈ UW := uw_t3 39 rfl rfl
theorem mw_520 : (Jvm.Cond.code ({ cls := "MixerStation", name := "room", desc := "(II)I" } : Jvm.MethodName) prog_1_method_9_code (4 : Nat) (Option.some Jvm.ClassFile.FieldType.int)) ∈ UW := uw_t3 40 rfl rfl
theorem mw_521 : (Jvm.Cond.methodLink "MixerStation" (151 : Nat) ({ cls := "MixerStation$State", name := "hasRoom", desc := "(I)Z" } : Jvm.MethodName)) ∈ UW := uw_t3 41 rfl rfl
theorem mw_524 : (Jvm.Cond.methodLink "MixerStationLaw" (121 : Nat) ({ cls := "MixerStationLaw", name := "way", desc := "(LMixerStation;II)J" } : Jvm.MethodName)) ∈ UW := uw_t3 44 rfl rfl
theorem mw_525 : (Jvm.Cond.static ({ cls := "MixerStationLaw", name := "way", desc := "(LMixerStation;II)J" } : Jvm.MethodName)) ∈ UW := uw_t3 45 rfl rfl
theorem mw_526 : (Jvm.Cond.codeWith ({ cls := "MixerStationLaw", name := "way", desc := "(LMixerStation;II)J" } : Jvm.MethodName) method_11_code (4 : Nat) (Option.some Jvm.ClassFile.FieldType.long) [((0 : Nat), (7 : Nat), (8 : Nat), (37 : Nat)), ((0 : Nat), (7 : Nat), (13 : Nat), (15 : Nat))]) ∈ UW := uw_t3 46 rfl rfl
theorem mw_527 : (Jvm.Cond.methodLink "MixerStationLaw" (47 : Nat) ({ cls := "MixerStation", name := "way", desc := "(II)I" } : Jvm.MethodName)) ∈ UW := uw_t3 47 rfl rfl
theorem mw_528 : (Jvm.Cond.instanceMethod ({ cls := "MixerStation", name := "way", desc := "(II)I" } : Jvm.MethodName)) ∈ UW := uw_t3 48 rfl rfl
theorem mw_529 : (Jvm.Cond.selects "MixerStation" ({ cls := "MixerStation", name := "way", desc := "(II)I" } : Jvm.MethodName) ({ cls := "MixerStation", name := "way", desc := "(II)I" } : Jvm.MethodName)) ∈ UW := uw_t3 49 rfl rfl
theorem mw_530 : (Jvm.Cond.code ({ cls := "MixerStation", name := "way", desc := "(II)I" } : Jvm.MethodName) prog_1_method_11_code (3 : Nat) (Option.some Jvm.ClassFile.FieldType.int)) ∈ UW := uw_t3 50 rfl rfl
theorem mw_531 : (Jvm.Cond.methodLink "MixerStation" (191 : Nat) ({ cls := "MixerStation$Ledger", name := "hasWay", desc := "(I)Z" } : Jvm.MethodName)) ∈ UW := uw_t3 51 rfl rfl
theorem mw_532 : (Jvm.Cond.instanceMethod ({ cls := "MixerStation$Ledger", name := "hasWay", desc := "(I)Z" } : Jvm.MethodName)) ∈ UW := uw_t3 52 rfl rfl
theorem mw_533 : (Jvm.Cond.selects "MixerStation$Ledger" ({ cls := "MixerStation$Ledger", name := "hasWay", desc := "(I)Z" } : Jvm.MethodName) ({ cls := "MixerStation$Ledger", name := "hasWay", desc := "(I)Z" } : Jvm.MethodName)) ∈ UW := uw_t3 53 rfl rfl
theorem mw_534 : (Jvm.Cond.code ({ cls := "MixerStation$Ledger", name := "hasWay", desc := "(I)Z" } : Jvm.MethodName) prog_3_method_3_code (2 : Nat) (Option.some Jvm.ClassFile.FieldType.boolean)) ∈ UW := uw_t3 54 rfl rfl
theorem mw_537 : (Jvm.Cond.methodLink "MixerStationLaw" (127 : Nat) ({ cls := "MixerStationLaw", name := "moved", desc := "(LMixerStation;II)J" } : Jvm.MethodName)) ∈ UW := uw_t3 57 rfl rfl
theorem mw_538 : (Jvm.Cond.static ({ cls := "MixerStationLaw", name := "moved", desc := "(LMixerStation;II)J" } : Jvm.MethodName)) ∈ UW := uw_t3 58 rfl rfl
theorem mw_539 : (Jvm.Cond.codeWith ({ cls := "MixerStationLaw", name := "moved", desc := "(LMixerStation;II)J" } : Jvm.MethodName) method_10_code (4 : Nat) (Option.some Jvm.ClassFile.FieldType.long) [((0 : Nat), (7 : Nat), (8 : Nat), (15 : Nat))]) ∈ UW := uw_t3 59 rfl rfl
theorem mw_540 : (Jvm.Cond.methodLink "MixerStationLaw" (44 : Nat) ({ cls := "MixerStation", name := "moved", desc := "(II)I" } : Jvm.MethodName)) ∈ UW := uw_t3 60 rfl rfl
theorem mw_541 : (Jvm.Cond.instanceMethod ({ cls := "MixerStation", name := "moved", desc := "(II)I" } : Jvm.MethodName)) ∈ UW := uw_t3 61 rfl rfl
theorem mw_542 : (Jvm.Cond.selects "MixerStation" ({ cls := "MixerStation", name := "moved", desc := "(II)I" } : Jvm.MethodName) ({ cls := "MixerStation", name := "moved", desc := "(II)I" } : Jvm.MethodName)) ∈ UW := uw_t3 62 rfl rfl
theorem mw_543 : (Jvm.Cond.code ({ cls := "MixerStation", name := "moved", desc := "(II)I" } : Jvm.MethodName) prog_1_method_10_code (3 : Nat) (Option.some Jvm.ClassFile.FieldType.int)) ∈ UW := uw_t3 63 rfl rfl
theorem mw_545 : (Jvm.Cond.methodLink "MixerStation" (187 : Nat) ({ cls := "MixerStation$Ledger", name := "sumBetween", desc := "(II)I" } : Jvm.MethodName)) ∈ UW := uw_t3 65 rfl rfl
theorem mw_546 : (Jvm.Cond.instanceMethod ({ cls := "MixerStation$Ledger", name := "sumBetween", desc := "(II)I" } : Jvm.MethodName)) ∈ UW := uw_t3 66 rfl rfl
theorem mw_547 : (Jvm.Cond.selects "MixerStation$Ledger" ({ cls := "MixerStation$Ledger", name := "sumBetween", desc := "(II)I" } : Jvm.MethodName) ({ cls := "MixerStation$Ledger", name := "sumBetween", desc := "(II)I" } : Jvm.MethodName)) ∈ UW := uw_t3 67 rfl rfl
theorem mw_548 : (Jvm.Cond.code ({ cls := "MixerStation$Ledger", name := "sumBetween", desc := "(II)I" } : Jvm.MethodName) prog_3_method_5_code (4 : Nat) (Option.some Jvm.ClassFile.FieldType.int)) ∈ UW := uw_t3 68 rfl rfl
theorem mw_549 : (Jvm.Cond.methodLink "MixerStationLaw" (129 : Nat) ({ cls := "MixerStationLaw", name := "addRoom", desc := "(LMixerStation;IIII)J" } : Jvm.MethodName)) ∈ UW := uw_t3 69 rfl rfl
theorem mw_550 : (Jvm.Cond.static ({ cls := "MixerStationLaw", name := "addRoom", desc := "(LMixerStation;IIII)J" } : Jvm.MethodName)) ∈ UW := uw_t3 70 rfl rfl
theorem mw_551 : (Jvm.Cond.codeWith ({ cls := "MixerStationLaw", name := "addRoom", desc := "(LMixerStation;IIII)J" } : Jvm.MethodName) method_12_code (6 : Nat) (Option.some Jvm.ClassFile.FieldType.long) [((0 : Nat), (10 : Nat), (11 : Nat), (15 : Nat)), ((0 : Nat), (10 : Nat), (17 : Nat), (19 : Nat))]) ∈ UW := uw_t3 71 rfl rfl
theorem mw_552 : (Jvm.Cond.methodLink "MixerStationLaw" (50 : Nat) ({ cls := "MixerStation", name := "addRoom", desc := "(IIII)I" } : Jvm.MethodName)) ∈ UW := uw_t3 72 rfl rfl
theorem mw_553 : (Jvm.Cond.instanceMethod ({ cls := "MixerStation", name := "addRoom", desc := "(IIII)I" } : Jvm.MethodName)) ∈ UW := uw_t3 73 rfl rfl
theorem mw_554 : (Jvm.Cond.selects "MixerStation" ({ cls := "MixerStation", name := "addRoom", desc := "(IIII)I" } : Jvm.MethodName) ({ cls := "MixerStation", name := "addRoom", desc := "(IIII)I" } : Jvm.MethodName)) ∈ UW := uw_t3 74 rfl rfl
theorem mw_555 : (Jvm.Cond.code ({ cls := "MixerStation", name := "addRoom", desc := "(IIII)I" } : Jvm.MethodName) prog_1_method_12_code (5 : Nat) (Option.some Jvm.ClassFile.FieldType.int)) ∈ UW := uw_t3 75 rfl rfl
theorem mw_556 : (Jvm.Cond.methodLink "MixerStation" (208 : Nat) ({ cls := "MixerStation", name := "wantedAllowed", desc := "(I)Z" } : Jvm.MethodName)) ∈ UW := uw_t3 76 rfl rfl
theorem mw_557 : (Jvm.Cond.static ({ cls := "MixerStation", name := "wantedAllowed", desc := "(I)Z" } : Jvm.MethodName)) ∈ UW := uw_t3 77 rfl rfl
theorem mw_558 : (Jvm.Cond.code ({ cls := "MixerStation", name := "wantedAllowed", desc := "(I)Z" } : Jvm.MethodName) prog_1_method_35_code (1 : Nat) (Option.some Jvm.ClassFile.FieldType.boolean)) ∈ UW := uw_t3 78 rfl rfl
theorem mw_559 : (Jvm.Cond.methodLink "MixerStation" (211 : Nat) ({ cls := "MixerStation", name := "radiatorsAllowed", desc := "(I)Z" } : Jvm.MethodName)) ∈ UW := uw_t3 79 rfl rfl
theorem mw_560 : (Jvm.Cond.static ({ cls := "MixerStation", name := "radiatorsAllowed", desc := "(I)Z" } : Jvm.MethodName)) ∈ UW := uw_t3 80 rfl rfl
theorem mw_561 : (Jvm.Cond.code ({ cls := "MixerStation", name := "radiatorsAllowed", desc := "(I)Z" } : Jvm.MethodName) prog_1_method_36_code (1 : Nat) (Option.some Jvm.ClassFile.FieldType.boolean)) ∈ UW := uw_t3 81 rfl rfl
theorem mw_562 : (Jvm.Cond.methodLink "MixerStation" (214 : Nat) ({ cls := "MixerStation", name := "leakAllowed", desc := "(I)Z" } : Jvm.MethodName)) ∈ UW := uw_t3 82 rfl rfl
theorem mw_563 : (Jvm.Cond.static ({ cls := "MixerStation", name := "leakAllowed", desc := "(I)Z" } : Jvm.MethodName)) ∈ UW := uw_t3 83 rfl rfl
theorem mw_564 : (Jvm.Cond.code ({ cls := "MixerStation", name := "leakAllowed", desc := "(I)Z" } : Jvm.MethodName) prog_1_method_37_code (1 : Nat) (Option.some Jvm.ClassFile.FieldType.boolean)) ∈ UW := uw_t3 84 rfl rfl
theorem mw_566 : (Jvm.Cond.methodLink "MixerStation" (219 : Nat) ({ cls := "MixerStation$State", name := "isFull", desc := "()Z" } : Jvm.MethodName)) ∈ UW := uw_t3 86 rfl rfl
theorem mw_568 : (Jvm.Cond.methodLink "MixerStation" (225 : Nat) ({ cls := "MixerStation$History", name := "remember", desc := "(LMixerStation$State;)V" } : Jvm.MethodName)) ∈ UW := uw_t3 88 rfl rfl
theorem mw_569 : (Jvm.Cond.instanceMethod ({ cls := "MixerStation$History", name := "remember", desc := "(LMixerStation$State;)V" } : Jvm.MethodName)) ∈ UW := uw_t3 89 rfl rfl
theorem mw_570 : (Jvm.Cond.selects "MixerStation$History" ({ cls := "MixerStation$History", name := "remember", desc := "(LMixerStation$State;)V" } : Jvm.MethodName) ({ cls := "MixerStation$History", name := "remember", desc := "(LMixerStation$State;)V" } : Jvm.MethodName)) ∈ UW := uw_t3 90 rfl rfl
theorem mw_571 : (Jvm.Cond.code ({ cls := "MixerStation$History", name := "remember", desc := "(LMixerStation$State;)V" } : Jvm.MethodName) prog_2_method_4_code (2 : Nat) (Option.none : Option Jvm.ClassFile.FieldType)) ∈ UW := uw_t3 91 rfl rfl
theorem mw_572 : (Jvm.Cond.methodLink "MixerStation$History" (22 : Nat) ({ cls := "MixerStation$History", name := "forgetOldest", desc := "()V" } : Jvm.MethodName)) ∈ UW := uw_t3 92 rfl rfl
theorem mw_574 : (Jvm.Cond.instanceMethod ({ cls := "MixerStation$History", name := "forgetOldest", desc := "()V" } : Jvm.MethodName)) ∈ UW := uw_t3 94 rfl rfl
theorem mw_575 : (Jvm.Cond.code ({ cls := "MixerStation$History", name := "forgetOldest", desc := "()V" } : Jvm.MethodName) prog_2_method_5_code (3 : Nat) (Option.none : Option Jvm.ClassFile.FieldType)) ∈ UW := uw_t3 95 rfl rfl
theorem mw_576 : (Jvm.Cond.methodLink "MixerStation$History" (25 : Nat) ({ cls := "MixerStation$State", name := "copyFrom", desc := "(LMixerStation$State;)V" } : Jvm.MethodName)) ∈ UW := uw_t3 96 rfl rfl
theorem mw_577 : (Jvm.Cond.methodLink "MixerStation" (228 : Nat) ({ cls := "MixerStation$State", name := "buildRoom", desc := "(IIII)V" } : Jvm.MethodName)) ∈ UW := uw_t3 97 rfl rfl
theorem mw_578 : (Jvm.Cond.methodLink "MixerStationLaw" (132 : Nat) ({ cls := "MixerStationLaw", name := "setRoom", desc := "(LMixerStation;III)J" } : Jvm.MethodName)) ∈ UW := uw_t3 98 rfl rfl
theorem mw_579 : (Jvm.Cond.static ({ cls := "MixerStationLaw", name := "setRoom", desc := "(LMixerStation;III)J" } : Jvm.MethodName)) ∈ UW := uw_t3 99 rfl rfl
theorem mw_580 : (Jvm.Cond.codeWith ({ cls := "MixerStationLaw", name := "setRoom", desc := "(LMixerStation;III)J" } : Jvm.MethodName) method_13_code (5 : Nat) (Option.some Jvm.ClassFile.FieldType.long) [((0 : Nat), (8 : Nat), (9 : Nat), (37 : Nat)), ((0 : Nat), (8 : Nat), (15 : Nat), (15 : Nat))]) ∈ UW := uw_t3 100 rfl rfl
theorem mw_581 : (Jvm.Cond.methodLink "MixerStationLaw" (54 : Nat) ({ cls := "MixerStation", name := "setRoom", desc := "(III)I" } : Jvm.MethodName)) ∈ UW := uw_t3 101 rfl rfl
theorem mw_582 : (Jvm.Cond.instanceMethod ({ cls := "MixerStation", name := "setRoom", desc := "(III)I" } : Jvm.MethodName)) ∈ UW := uw_t3 102 rfl rfl
theorem mw_583 : (Jvm.Cond.selects "MixerStation" ({ cls := "MixerStation", name := "setRoom", desc := "(III)I" } : Jvm.MethodName) ({ cls := "MixerStation", name := "setRoom", desc := "(III)I" } : Jvm.MethodName)) ∈ UW := uw_t3 103 rfl rfl
theorem mw_584 : (Jvm.Cond.code ({ cls := "MixerStation", name := "setRoom", desc := "(III)I" } : Jvm.MethodName) prog_1_method_13_code (4 : Nat) (Option.some Jvm.ClassFile.FieldType.int)) ∈ UW := uw_t3 104 rfl rfl
theorem mw_585 : (Jvm.Cond.methodLink "MixerStation" (232 : Nat) ({ cls := "MixerStation", name := "roomNumberAllowed", desc := "(II)Z" } : Jvm.MethodName)) ∈ UW := uw_t3 105 rfl rfl
theorem mw_586 : (Jvm.Cond.static ({ cls := "MixerStation", name := "roomNumberAllowed", desc := "(II)Z" } : Jvm.MethodName)) ∈ UW := uw_t3 106 rfl rfl
theorem mw_587 : (Jvm.Cond.code ({ cls := "MixerStation", name := "roomNumberAllowed", desc := "(II)Z" } : Jvm.MethodName) prog_1_method_38_code (2 : Nat) (Option.some Jvm.ClassFile.FieldType.boolean)) ∈ UW := uw_t3 107 rfl rfl
theorem mw_589 : (Jvm.Cond.methodLink "MixerStation" (238 : Nat) ({ cls := "MixerStation$Room", name := "change", desc := "(II)I" } : Jvm.MethodName)) ∈ UW := uw_t3 109 rfl rfl
theorem mw_590 : (Jvm.Cond.instanceMethod ({ cls := "MixerStation$Room", name := "change", desc := "(II)I" } : Jvm.MethodName)) ∈ UW := uw_t3 110 rfl rfl
theorem mw_591 : (Jvm.Cond.selects "MixerStation$Room" ({ cls := "MixerStation$Room", name := "change", desc := "(II)I" } : Jvm.MethodName) ({ cls := "MixerStation$Room", name := "change", desc := "(II)I" } : Jvm.MethodName)) ∈ UW := uw_t3 111 rfl rfl
theorem mw_592 : (Jvm.Cond.code ({ cls := "MixerStation$Room", name := "change", desc := "(II)I" } : Jvm.MethodName) prog_4_method_4_code (4 : Nat) (Option.some Jvm.ClassFile.FieldType.int)) ∈ UW := uw_t3 112 rfl rfl
theorem mw_593 : (Jvm.Cond.methodLink "MixerStationLaw" (135 : Nat) ({ cls := "MixerStationLaw", name := "window", desc := "(LMixerStation;IZ)J" } : Jvm.MethodName)) ∈ UW := uw_t3 113 rfl rfl
theorem mw_594 : (Jvm.Cond.static ({ cls := "MixerStationLaw", name := "window", desc := "(LMixerStation;IZ)J" } : Jvm.MethodName)) ∈ UW := uw_t3 114 rfl rfl
theorem mw_595 : (Jvm.Cond.codeWith ({ cls := "MixerStationLaw", name := "window", desc := "(LMixerStation;IZ)J" } : Jvm.MethodName) method_14_code (4 : Nat) (Option.some Jvm.ClassFile.FieldType.long) [((0 : Nat), (7 : Nat), (8 : Nat), (37 : Nat))]) ∈ UW := uw_t3 115 rfl rfl
theorem mw_596 : (Jvm.Cond.methodLink "MixerStationLaw" (58 : Nat) ({ cls := "MixerStation", name := "window", desc := "(IZ)I" } : Jvm.MethodName)) ∈ UW := uw_t3 116 rfl rfl
theorem mw_597 : (Jvm.Cond.instanceMethod ({ cls := "MixerStation", name := "window", desc := "(IZ)I" } : Jvm.MethodName)) ∈ UW := uw_t3 117 rfl rfl
theorem mw_598 : (Jvm.Cond.selects "MixerStation" ({ cls := "MixerStation", name := "window", desc := "(IZ)I" } : Jvm.MethodName) ({ cls := "MixerStation", name := "window", desc := "(IZ)I" } : Jvm.MethodName)) ∈ UW := uw_t3 118 rfl rfl
theorem mw_599 : (Jvm.Cond.code ({ cls := "MixerStation", name := "window", desc := "(IZ)I" } : Jvm.MethodName) prog_1_method_14_code (3 : Nat) (Option.some Jvm.ClassFile.FieldType.int)) ∈ UW := uw_t3 119 rfl rfl
theorem mw_600 : (Jvm.Cond.methodLink "MixerStation" (241 : Nat) ({ cls := "MixerStation$State", name := "openWindows", desc := "()I" } : Jvm.MethodName)) ∈ UW := uw_t3 120 rfl rfl
theorem mw_601 : (Jvm.Cond.instanceMethod ({ cls := "MixerStation$State", name := "openWindows", desc := "()I" } : Jvm.MethodName)) ∈ UW := uw_t3 121 rfl rfl
theorem mw_602 : (Jvm.Cond.selects "MixerStation$State" ({ cls := "MixerStation$State", name := "openWindows", desc := "()I" } : Jvm.MethodName) ({ cls := "MixerStation$State", name := "openWindows", desc := "()I" } : Jvm.MethodName)) ∈ UW := uw_t3 122 rfl rfl
theorem mw_603 : (Jvm.Cond.code ({ cls := "MixerStation$State", name := "openWindows", desc := "()I" } : Jvm.MethodName) prog_5_method_16_code (3 : Nat) (Option.some Jvm.ClassFile.FieldType.int)) ∈ UW := uw_t3 123 rfl rfl
theorem mw_604 : (Jvm.Cond.methodLink "MixerStationLaw" (138 : Nat) ({ cls := "MixerStationLaw", name := "set", desc := "(LMixerStation;II)J" } : Jvm.MethodName)) ∈ UW := uw_t3 124 rfl rfl
theorem mw_605 : (Jvm.Cond.static ({ cls := "MixerStationLaw", name := "set", desc := "(LMixerStation;II)J" } : Jvm.MethodName)) ∈ UW := uw_t3 125 rfl rfl
theorem mw_606 : (Jvm.Cond.codeWith ({ cls := "MixerStationLaw", name := "set", desc := "(LMixerStation;II)J" } : Jvm.MethodName) method_15_code (4 : Nat) (Option.some Jvm.ClassFile.FieldType.long) [((0 : Nat), (7 : Nat), (8 : Nat), (15 : Nat))]) ∈ UW := uw_t3 126 rfl rfl
theorem mw_607 : (Jvm.Cond.methodLink "MixerStationLaw" (62 : Nat) ({ cls := "MixerStation", name := "set", desc := "(II)I" } : Jvm.MethodName)) ∈ UW := uw_t3 127 rfl rfl
theorem mw_608 : (Jvm.Cond.instanceMethod ({ cls := "MixerStation", name := "set", desc := "(II)I" } : Jvm.MethodName)) ∈ UW := uw_t3 128 rfl rfl
theorem mw_609 : (Jvm.Cond.selects "MixerStation" ({ cls := "MixerStation", name := "set", desc := "(II)I" } : Jvm.MethodName) ({ cls := "MixerStation", name := "set", desc := "(II)I" } : Jvm.MethodName)) ∈ UW := uw_t3 129 rfl rfl
theorem mw_610 : (Jvm.Cond.code ({ cls := "MixerStation", name := "set", desc := "(II)I" } : Jvm.MethodName) prog_1_method_15_code (4 : Nat) (Option.some Jvm.ClassFile.FieldType.int)) ∈ UW := uw_t3 130 rfl rfl
theorem mw_611 : (Jvm.Cond.methodLink "MixerStation" (244 : Nat) ({ cls := "MixerStation", name := "settingAllowed", desc := "(II)Z" } : Jvm.MethodName)) ∈ UW := uw_t3 131 rfl rfl
theorem mw_612 : (Jvm.Cond.static ({ cls := "MixerStation", name := "settingAllowed", desc := "(II)Z" } : Jvm.MethodName)) ∈ UW := uw_t3 132 rfl rfl
theorem mw_613 : (Jvm.Cond.code ({ cls := "MixerStation", name := "settingAllowed", desc := "(II)Z" } : Jvm.MethodName) prog_1_method_32_code (2 : Nat) (Option.some Jvm.ClassFile.FieldType.boolean)) ∈ UW := uw_t3 133 rfl rfl
theorem mw_614 : (Jvm.Cond.methodLink "MixerStation" (298 : Nat) ({ cls := "MixerStation", name := "lowestSetting", desc := "(I)I" } : Jvm.MethodName)) ∈ UW := uw_t3 134 rfl rfl
theorem mw_615 : (Jvm.Cond.methodLink "MixerStation" (301 : Nat) ({ cls := "MixerStation", name := "highestSetting", desc := "(I)I" } : Jvm.MethodName)) ∈ UW := uw_t3 135 rfl rfl
theorem mw_617 : (Jvm.Cond.methodLink "MixerStation" (249 : Nat) ({ cls := "MixerStation$State", name := "changeSetting", desc := "(II)V" } : Jvm.MethodName)) ∈ UW := uw_t3 137 rfl rfl
theorem mw_618 : (Jvm.Cond.methodLink "MixerStationLaw" (140 : Nat) ({ cls := "MixerStationLaw", name := "outside", desc := "(LMixerStation;I)J" } : Jvm.MethodName)) ∈ UW := uw_t3 138 rfl rfl
theorem mw_619 : (Jvm.Cond.static ({ cls := "MixerStationLaw", name := "outside", desc := "(LMixerStation;I)J" } : Jvm.MethodName)) ∈ UW := uw_t3 139 rfl rfl
theorem mw_620 : (Jvm.Cond.codeWith ({ cls := "MixerStationLaw", name := "outside", desc := "(LMixerStation;I)J" } : Jvm.MethodName) method_16_code (3 : Nat) (Option.some Jvm.ClassFile.FieldType.long) [((0 : Nat), (6 : Nat), (7 : Nat), (15 : Nat))]) ∈ UW := uw_t3 140 rfl rfl
theorem mw_621 : (Jvm.Cond.methodLink "MixerStationLaw" (65 : Nat) ({ cls := "MixerStation", name := "outside", desc := "(I)I" } : Jvm.MethodName)) ∈ UW := uw_t3 141 rfl rfl
theorem mw_622 : (Jvm.Cond.instanceMethod ({ cls := "MixerStation", name := "outside", desc := "(I)I" } : Jvm.MethodName)) ∈ UW := uw_t3 142 rfl rfl
theorem mw_623 : (Jvm.Cond.selects "MixerStation" ({ cls := "MixerStation", name := "outside", desc := "(I)I" } : Jvm.MethodName) ({ cls := "MixerStation", name := "outside", desc := "(I)I" } : Jvm.MethodName)) ∈ UW := uw_t3 143 rfl rfl
theorem mw_624 : (Jvm.Cond.code ({ cls := "MixerStation", name := "outside", desc := "(I)I" } : Jvm.MethodName) prog_1_method_16_code (3 : Nat) (Option.some Jvm.ClassFile.FieldType.int)) ∈ UW := uw_t3 144 rfl rfl
theorem mw_625 : (Jvm.Cond.methodLink "MixerStation" (253 : Nat) ({ cls := "MixerStation", name := "outsideAllowed", desc := "(I)Z" } : Jvm.MethodName)) ∈ UW := uw_t3 145 rfl rfl
theorem mw_626 : (Jvm.Cond.static ({ cls := "MixerStation", name := "outsideAllowed", desc := "(I)Z" } : Jvm.MethodName)) ∈ UW := uw_t3 146 rfl rfl
theorem mw_627 : (Jvm.Cond.code ({ cls := "MixerStation", name := "outsideAllowed", desc := "(I)Z" } : Jvm.MethodName) prog_1_method_33_code (1 : Nat) (Option.some Jvm.ClassFile.FieldType.boolean)) ∈ UW := uw_t3 147 rfl rfl
theorem mw_629 : (Jvm.Cond.methodLink "MixerStationLaw" (142 : Nat) ({ cls := "MixerStationLaw", name := "pass", desc := "(LMixerStation;I)J" } : Jvm.MethodName)) ∈ UW := uw_t3 149 rfl rfl
theorem mw_630 : (Jvm.Cond.static ({ cls := "MixerStationLaw", name := "pass", desc := "(LMixerStation;I)J" } : Jvm.MethodName)) ∈ UW := uw_t3 150 rfl rfl
theorem mw_631 : (Jvm.Cond.codeWith ({ cls := "MixerStationLaw", name := "pass", desc := "(LMixerStation;I)J" } : Jvm.MethodName) method_17_code (3 : Nat) (Option.some Jvm.ClassFile.FieldType.long) [((0 : Nat), (6 : Nat), (7 : Nat), (15 : Nat))]) ∈ UW := uw_t3 151 rfl rfl
theorem mw_632 : (Jvm.Cond.methodLink "MixerStationLaw" (68 : Nat) ({ cls := "MixerStation", name := "pass", desc := "(I)I" } : Jvm.MethodName)) ∈ UW := uw_t3 152 rfl rfl
theorem mw_633 : (Jvm.Cond.instanceMethod ({ cls := "MixerStation", name := "pass", desc := "(I)I" } : Jvm.MethodName)) ∈ UW := uw_t3 153 rfl rfl
theorem mw_634 : (Jvm.Cond.selects "MixerStation" ({ cls := "MixerStation", name := "pass", desc := "(I)I" } : Jvm.MethodName) ({ cls := "MixerStation", name := "pass", desc := "(I)I" } : Jvm.MethodName)) ∈ UW := uw_t3 154 rfl rfl
theorem mw_635 : (Jvm.Cond.code ({ cls := "MixerStation", name := "pass", desc := "(I)I" } : Jvm.MethodName) prog_1_method_17_code (3 : Nat) (Option.some Jvm.ClassFile.FieldType.int)) ∈ UW := uw_t3 155 rfl rfl
theorem mw_636 : (Jvm.Cond.methodLink "MixerStation" (258 : Nat) ({ cls := "MixerStation", name := "passAllowed", desc := "(I)Z" } : Jvm.MethodName)) ∈ UW := uw_t3 156 rfl rfl
theorem mw_637 : (Jvm.Cond.static ({ cls := "MixerStation", name := "passAllowed", desc := "(I)Z" } : Jvm.MethodName)) ∈ UW := uw_t3 157 rfl rfl
theorem mw_638 : (Jvm.Cond.code ({ cls := "MixerStation", name := "passAllowed", desc := "(I)Z" } : Jvm.MethodName) prog_1_method_34_code (1 : Nat) (Option.some Jvm.ClassFile.FieldType.boolean)) ∈ UW := uw_t3 158 rfl rfl
theorem mw_640 : (Jvm.Cond.methodLink "MixerStation" (263 : Nat) ({ cls := "MixerStation$State", name := "advance", desc := "(I)V" } : Jvm.MethodName)) ∈ UW := uw_t3 160 rfl rfl
theorem mw_641 : (Jvm.Cond.instanceMethod ({ cls := "MixerStation$State", name := "advance", desc := "(I)V" } : Jvm.MethodName)) ∈ UW := uw_t3 161 rfl rfl
theorem mw_642 : (Jvm.Cond.selects "MixerStation$State" ({ cls := "MixerStation$State", name := "advance", desc := "(I)V" } : Jvm.MethodName) ({ cls := "MixerStation$State", name := "advance", desc := "(I)V" } : Jvm.MethodName)) ∈ UW := uw_t3 162 rfl rfl
theorem mw_643 : (Jvm.Cond.code ({ cls := "MixerStation$State", name := "advance", desc := "(I)V" } : Jvm.MethodName) prog_5_method_21_code (3 : Nat) (Option.none : Option Jvm.ClassFile.FieldType)) ∈ UW := uw_t3 163 rfl rfl
theorem mw_644 : (Jvm.Cond.methodLink "MixerStation$State" (128 : Nat) ({ cls := "MixerStation$State", name := "turnSeason", desc := "()V" } : Jvm.MethodName)) ∈ UW := uw_t3 164 rfl rfl
theorem mw_645 : (Jvm.Cond.instanceMethod ({ cls := "MixerStation$State", name := "turnSeason", desc := "()V" } : Jvm.MethodName)) ∈ UW := uw_t3 165 rfl rfl
theorem mw_646 : (Jvm.Cond.selects "MixerStation$State" ({ cls := "MixerStation$State", name := "turnSeason", desc := "()V" } : Jvm.MethodName) ({ cls := "MixerStation$State", name := "turnSeason", desc := "()V" } : Jvm.MethodName)) ∈ UW := uw_t3 166 rfl rfl
theorem mw_647 : (Jvm.Cond.code ({ cls := "MixerStation$State", name := "turnSeason", desc := "()V" } : Jvm.MethodName) prog_5_method_22_code (2 : Nat) (Option.none : Option Jvm.ClassFile.FieldType)) ∈ UW := uw_t3 167 rfl rfl
theorem mw_648 : (Jvm.Cond.methodLink "MixerStation$State" (131 : Nat) ({ cls := "MixerStation$State", name := "runBoiler", desc := "()V" } : Jvm.MethodName)) ∈ UW := uw_t3 168 rfl rfl
theorem mw_649 : (Jvm.Cond.instanceMethod ({ cls := "MixerStation$State", name := "runBoiler", desc := "()V" } : Jvm.MethodName)) ∈ UW := uw_t3 169 rfl rfl
theorem mw_650 : (Jvm.Cond.selects "MixerStation$State" ({ cls := "MixerStation$State", name := "runBoiler", desc := "()V" } : Jvm.MethodName) ({ cls := "MixerStation$State", name := "runBoiler", desc := "()V" } : Jvm.MethodName)) ∈ UW := uw_t3 170 rfl rfl
theorem mw_651 : (Jvm.Cond.code ({ cls := "MixerStation$State", name := "runBoiler", desc := "()V" } : Jvm.MethodName) prog_5_method_23_code (1 : Nat) (Option.none : Option Jvm.ClassFile.FieldType)) ∈ UW := uw_t3 171 rfl rfl
theorem mw_652 : (Jvm.Cond.methodLink "MixerStation$State" (149 : Nat) ({ cls := "MixerStation$State", name := "mustStop", desc := "()Z" } : Jvm.MethodName)) ∈ UW := uw_t3 172 rfl rfl
theorem mw_654 : (Jvm.Cond.instanceMethod ({ cls := "MixerStation$State", name := "mustStop", desc := "()Z" } : Jvm.MethodName)) ∈ UW := uw_t3 174 rfl rfl
theorem mw_655 : (Jvm.Cond.code ({ cls := "MixerStation$State", name := "mustStop", desc := "()Z" } : Jvm.MethodName) prog_5_method_24_code (2 : Nat) (Option.some Jvm.ClassFile.FieldType.boolean)) ∈ UW := uw_t3 175 rfl rfl
theorem mw_656 : (Jvm.Cond.methodLink "MixerStation$State" (112 : Nat) ({ cls := "MixerStation$State", name := "degrees", desc := "(I)I" } : Jvm.MethodName)) ∈ UW := uw_t3 176 rfl rfl
theorem mw_657 : (Jvm.Cond.methodLink "MixerStation$State" (153 : Nat) ({ cls := "MixerStation$State", name := "mayStart", desc := "()Z" } : Jvm.MethodName)) ∈ UW := uw_t3 177 rfl rfl
theorem mw_659 : (Jvm.Cond.instanceMethod ({ cls := "MixerStation$State", name := "mayStart", desc := "()Z" } : Jvm.MethodName)) ∈ UW := uw_t3 179 rfl rfl
theorem mw_660 : (Jvm.Cond.code ({ cls := "MixerStation$State", name := "mayStart", desc := "()Z" } : Jvm.MethodName) prog_5_method_25_code (1 : Nat) (Option.some Jvm.ClassFile.FieldType.boolean)) ∈ UW := uw_t3 180 rfl rfl
theorem mw_661 : (Jvm.Cond.methodLink "MixerStation$State" (134 : Nat) ({ cls := "MixerStation$State", name := "moveValve", desc := "()V" } : Jvm.MethodName)) ∈ UW := uw_t3 181 rfl rfl
theorem mw_662 : (Jvm.Cond.instanceMethod ({ cls := "MixerStation$State", name := "moveValve", desc := "()V" } : Jvm.MethodName)) ∈ UW := uw_t3 182 rfl rfl
theorem mw_663 : (Jvm.Cond.selects "MixerStation$State" ({ cls := "MixerStation$State", name := "moveValve", desc := "()V" } : Jvm.MethodName) ({ cls := "MixerStation$State", name := "moveValve", desc := "()V" } : Jvm.MethodName)) ∈ UW := uw_t3 183 rfl rfl
theorem mw_664 : (Jvm.Cond.code ({ cls := "MixerStation$State", name := "moveValve", desc := "()V" } : Jvm.MethodName) prog_5_method_26_code (3 : Nat) (Option.none : Option Jvm.ClassFile.FieldType)) ∈ UW := uw_t3 184 rfl rfl
theorem mw_665 : (Jvm.Cond.methodLink "MixerStation$State" (156 : Nat) ({ cls := "MixerStation$State", name := "freeTarget", desc := "()I" } : Jvm.MethodName)) ∈ UW := uw_t3 185 rfl rfl
theorem mw_666 : (Jvm.Cond.instanceMethod ({ cls := "MixerStation$State", name := "freeTarget", desc := "()I" } : Jvm.MethodName)) ∈ UW := uw_t3 186 rfl rfl
theorem mw_667 : (Jvm.Cond.selects "MixerStation$State" ({ cls := "MixerStation$State", name := "freeTarget", desc := "()I" } : Jvm.MethodName) ({ cls := "MixerStation$State", name := "freeTarget", desc := "()I" } : Jvm.MethodName)) ∈ UW := uw_t3 187 rfl rfl
theorem mw_668 : (Jvm.Cond.code ({ cls := "MixerStation$State", name := "freeTarget", desc := "()I" } : Jvm.MethodName) prog_5_method_28_code (2 : Nat) (Option.some Jvm.ClassFile.FieldType.int)) ∈ UW := uw_t3 188 rfl rfl
theorem mw_669 : (Jvm.Cond.methodLink "MixerStation$State" (166 : Nat) ({ cls := "MixerStation$State", name := "loopShouldHave", desc := "()I" } : Jvm.MethodName)) ∈ UW := uw_t3 189 rfl rfl
theorem mw_670 : (Jvm.Cond.methodLink "MixerStation$State" (163 : Nat) ({ cls := "java/lang/Math", name := "max", desc := "(II)I" } : Jvm.MethodName)) ∈ UW := uw_t3 190 rfl rfl
theorem mw_671 : (Jvm.Cond.static ({ cls := "java/lang/Math", name := "max", desc := "(II)I" } : Jvm.MethodName)) ∈ UW := uw_t3 191 rfl rfl
theorem mw_672 : (Jvm.Cond.code ({ cls := "java/lang/Math", name := "max", desc := "(II)I" } : Jvm.MethodName) prog_13_method_65_code (2 : Nat) (Option.some Jvm.ClassFile.FieldType.int)) ∈ UW := uw_t3 192 rfl rfl
theorem mw_673 : (Jvm.Cond.methodLink "MixerStation$State" (160 : Nat) ({ cls := "MixerStation$State", name := "isPinched", desc := "()Z" } : Jvm.MethodName)) ∈ UW := uw_t3 193 rfl rfl
theorem mw_674 : (Jvm.Cond.instanceMethod ({ cls := "MixerStation$State", name := "isPinched", desc := "()Z" } : Jvm.MethodName)) ∈ UW := uw_t3 194 rfl rfl
theorem mw_675 : (Jvm.Cond.selects "MixerStation$State" ({ cls := "MixerStation$State", name := "isPinched", desc := "()Z" } : Jvm.MethodName) ({ cls := "MixerStation$State", name := "isPinched", desc := "()Z" } : Jvm.MethodName)) ∈ UW := uw_t3 195 rfl rfl
theorem mw_676 : (Jvm.Cond.code ({ cls := "MixerStation$State", name := "isPinched", desc := "()Z" } : Jvm.MethodName) prog_5_method_27_code (1 : Nat) (Option.some Jvm.ClassFile.FieldType.boolean)) ∈ UW := uw_t3 196 rfl rfl
theorem mw_677 : (Jvm.Cond.methodLink "MixerStation$State" (137 : Nat) ({ cls := "MixerStation$State", name := "mix", desc := "()V" } : Jvm.MethodName)) ∈ UW := uw_t3 197 rfl rfl
theorem mw_679 : (Jvm.Cond.instanceMethod ({ cls := "MixerStation$State", name := "mix", desc := "()V" } : Jvm.MethodName)) ∈ UW := uw_t3 199 rfl rfl
theorem mw_680 : (Jvm.Cond.code ({ cls := "MixerStation$State", name := "mix", desc := "()V" } : Jvm.MethodName) prog_5_method_29_code (2 : Nat) (Option.none : Option Jvm.ClassFile.FieldType)) ∈ UW := uw_t3 200 rfl rfl
theorem mw_681 : (Jvm.Cond.methodLink "MixerStation$State" (140 : Nat) ({ cls := "MixerStation$State", name := "heatRooms", desc := "()V" } : Jvm.MethodName)) ∈ UW := uw_t3 201 rfl rfl
theorem mw_683 : (Jvm.Cond.instanceMethod ({ cls := "MixerStation$State", name := "heatRooms", desc := "()V" } : Jvm.MethodName)) ∈ UW := uw_t3 203 rfl rfl
theorem mw_684 : (Jvm.Cond.code ({ cls := "MixerStation$State", name := "heatRooms", desc := "()V" } : Jvm.MethodName) prog_5_method_30_code (4 : Nat) (Option.none : Option Jvm.ClassFile.FieldType)) ∈ UW := uw_t3 204 rfl rfl
theorem mw_685 : (Jvm.Cond.methodLink "MixerStation$State" (143 : Nat) ({ cls := "MixerStation$State", name := "leakRooms", desc := "()V" } : Jvm.MethodName)) ∈ UW := uw_t3 205 rfl rfl
theorem mw_687 : (Jvm.Cond.instanceMethod ({ cls := "MixerStation$State", name := "leakRooms", desc := "()V" } : Jvm.MethodName)) ∈ UW := uw_t3 207 rfl rfl
theorem mw_688 : (Jvm.Cond.code ({ cls := "MixerStation$State", name := "leakRooms", desc := "()V" } : Jvm.MethodName) prog_5_method_31_code (4 : Nat) (Option.none : Option Jvm.ClassFile.FieldType)) ∈ UW := uw_t3 208 rfl rfl
theorem mw_689 : (Jvm.Cond.methodLink "MixerStation$State" (146 : Nat) ({ cls := "MixerStation$State", name := "judgeRooms", desc := "()V" } : Jvm.MethodName)) ∈ UW := uw_t3 209 rfl rfl
theorem mw_691 : (Jvm.Cond.instanceMethod ({ cls := "MixerStation$State", name := "judgeRooms", desc := "()V" } : Jvm.MethodName)) ∈ UW := uw_t3 211 rfl rfl
theorem mw_692 : (Jvm.Cond.code ({ cls := "MixerStation$State", name := "judgeRooms", desc := "()V" } : Jvm.MethodName) prog_5_method_32_code (2 : Nat) (Option.none : Option Jvm.ClassFile.FieldType)) ∈ UW := uw_t3 212 rfl rfl
theorem mw_693 : (Jvm.Cond.methodLink "MixerStation$State" (175 : Nat) ({ cls := "MixerStation$Room", name := "judge", desc := "(I)V" } : Jvm.MethodName)) ∈ UW := uw_t3 213 rfl rfl
theorem mw_694 : (Jvm.Cond.instanceMethod ({ cls := "MixerStation$Room", name := "judge", desc := "(I)V" } : Jvm.MethodName)) ∈ UW := uw_t3 214 rfl rfl
theorem mw_695 : (Jvm.Cond.selects "MixerStation$Room" ({ cls := "MixerStation$Room", name := "judge", desc := "(I)V" } : Jvm.MethodName) ({ cls := "MixerStation$Room", name := "judge", desc := "(I)V" } : Jvm.MethodName)) ∈ UW := uw_t3 215 rfl rfl
theorem mw_696 : (Jvm.Cond.code ({ cls := "MixerStation$Room", name := "judge", desc := "(I)V" } : Jvm.MethodName) prog_4_method_5_code (2 : Nat) (Option.none : Option Jvm.ClassFile.FieldType)) ∈ UW := uw_t3 216 rfl rfl
theorem mw_697 : (Jvm.Cond.methodLink "MixerStationLaw" (144 : Nat) ({ cls := "MixerStationLaw", name := "ahead", desc := "(LMixerStation;II)J" } : Jvm.MethodName)) ∈ UW := uw_t3 217 rfl rfl
theorem mw_698 : (Jvm.Cond.static ({ cls := "MixerStationLaw", name := "ahead", desc := "(LMixerStation;II)J" } : Jvm.MethodName)) ∈ UW := uw_t3 218 rfl rfl
theorem mw_699 : (Jvm.Cond.codeWith ({ cls := "MixerStationLaw", name := "ahead", desc := "(LMixerStation;II)J" } : Jvm.MethodName) method_19_code (4 : Nat) (Option.some Jvm.ClassFile.FieldType.long) [((0 : Nat), (7 : Nat), (8 : Nat), (37 : Nat)), ((0 : Nat), (7 : Nat), (13 : Nat), (15 : Nat))]) ∈ UW := uw_t3 219 rfl rfl
theorem mw_700 : (Jvm.Cond.methodLink "MixerStationLaw" (74 : Nat) ({ cls := "MixerStation", name := "ahead", desc := "(II)I" } : Jvm.MethodName)) ∈ UW := uw_t3 220 rfl rfl
theorem mw_701 : (Jvm.Cond.instanceMethod ({ cls := "MixerStation", name := "ahead", desc := "(II)I" } : Jvm.MethodName)) ∈ UW := uw_t3 221 rfl rfl
theorem mw_702 : (Jvm.Cond.selects "MixerStation" ({ cls := "MixerStation", name := "ahead", desc := "(II)I" } : Jvm.MethodName) ({ cls := "MixerStation", name := "ahead", desc := "(II)I" } : Jvm.MethodName)) ∈ UW := uw_t3 222 rfl rfl
theorem mw_703 : (Jvm.Cond.code ({ cls := "MixerStation", name := "ahead", desc := "(II)I" } : Jvm.MethodName) prog_1_method_19_code (3 : Nat) (Option.some Jvm.ClassFile.FieldType.int)) ∈ UW := uw_t3 223 rfl rfl
theorem mw_705 : (Jvm.Cond.methodLink "MixerStationLaw" (146 : Nat) ({ cls := "MixerStationLaw", name := "minutesTo", desc := "(LMixerStation;I)J" } : Jvm.MethodName)) ∈ UW := uw_t3 225 rfl rfl
theorem mw_706 : (Jvm.Cond.static ({ cls := "MixerStationLaw", name := "minutesTo", desc := "(LMixerStation;I)J" } : Jvm.MethodName)) ∈ UW := uw_t3 226 rfl rfl
theorem mw_707 : (Jvm.Cond.codeWith ({ cls := "MixerStationLaw", name := "minutesTo", desc := "(LMixerStation;I)J" } : Jvm.MethodName) method_20_code (3 : Nat) (Option.some Jvm.ClassFile.FieldType.long) [((0 : Nat), (6 : Nat), (7 : Nat), (37 : Nat))]) ∈ UW := uw_t3 227 rfl rfl
theorem mw_708 : (Jvm.Cond.methodLink "MixerStationLaw" (77 : Nat) ({ cls := "MixerStation", name := "minutesTo", desc := "(I)I" } : Jvm.MethodName)) ∈ UW := uw_t3 228 rfl rfl
theorem mw_709 : (Jvm.Cond.instanceMethod ({ cls := "MixerStation", name := "minutesTo", desc := "(I)I" } : Jvm.MethodName)) ∈ UW := uw_t3 229 rfl rfl
theorem mw_710 : (Jvm.Cond.selects "MixerStation" ({ cls := "MixerStation", name := "minutesTo", desc := "(I)I" } : Jvm.MethodName) ({ cls := "MixerStation", name := "minutesTo", desc := "(I)I" } : Jvm.MethodName)) ∈ UW := uw_t3 230 rfl rfl
theorem mw_711 : (Jvm.Cond.code ({ cls := "MixerStation", name := "minutesTo", desc := "(I)I" } : Jvm.MethodName) prog_1_method_20_code (3 : Nat) (Option.some Jvm.ClassFile.FieldType.int)) ∈ UW := uw_t3 231 rfl rfl
theorem mw_712 : (Jvm.Cond.methodLink "MixerStation" (278 : Nat) ({ cls := "MixerStation$State", name := "isAsWarmAsWanted", desc := "(I)Z" } : Jvm.MethodName)) ∈ UW := uw_t3 232 rfl rfl
theorem mw_713 : (Jvm.Cond.instanceMethod ({ cls := "MixerStation$State", name := "isAsWarmAsWanted", desc := "(I)Z" } : Jvm.MethodName)) ∈ UW := uw_t3 233 rfl rfl
theorem mw_714 : (Jvm.Cond.selects "MixerStation$State" ({ cls := "MixerStation$State", name := "isAsWarmAsWanted", desc := "(I)Z" } : Jvm.MethodName) ({ cls := "MixerStation$State", name := "isAsWarmAsWanted", desc := "(I)Z" } : Jvm.MethodName)) ∈ UW := uw_t3 234 rfl rfl
theorem mw_715 : (Jvm.Cond.code ({ cls := "MixerStation$State", name := "isAsWarmAsWanted", desc := "(I)Z" } : Jvm.MethodName) prog_5_method_18_code (2 : Nat) (Option.some Jvm.ClassFile.FieldType.boolean)) ∈ UW := uw_t3 235 rfl rfl
theorem mw_716 : (Jvm.Cond.constant "MixerStation" (63 : Nat) (-99999 : Int32)) ∈ UW := uw_t3 236 rfl rfl
theorem mw_717 : (Jvm.Cond.methodLink "MixerStationLaw" (148 : Nat) ({ cls := "MixerStationLaw", name := "bestSlope", desc := "(LMixerStation;I)J" } : Jvm.MethodName)) ∈ UW := uw_t3 237 rfl rfl
theorem mw_718 : (Jvm.Cond.static ({ cls := "MixerStationLaw", name := "bestSlope", desc := "(LMixerStation;I)J" } : Jvm.MethodName)) ∈ UW := uw_t3 238 rfl rfl
theorem mw_719 : (Jvm.Cond.codeWith ({ cls := "MixerStationLaw", name := "bestSlope", desc := "(LMixerStation;I)J" } : Jvm.MethodName) method_21_code (3 : Nat) (Option.some Jvm.ClassFile.FieldType.long) [((0 : Nat), (6 : Nat), (7 : Nat), (15 : Nat))]) ∈ UW := uw_t3 239 rfl rfl
theorem mw_720 : (Jvm.Cond.methodLink "MixerStationLaw" (80 : Nat) ({ cls := "MixerStation", name := "bestSlope", desc := "(I)I" } : Jvm.MethodName)) ∈ UW := uw_t4 0 rfl rfl
theorem mw_721 : (Jvm.Cond.instanceMethod ({ cls := "MixerStation", name := "bestSlope", desc := "(I)I" } : Jvm.MethodName)) ∈ UW := uw_t4 1 rfl rfl
theorem mw_722 : (Jvm.Cond.selects "MixerStation" ({ cls := "MixerStation", name := "bestSlope", desc := "(I)I" } : Jvm.MethodName) ({ cls := "MixerStation", name := "bestSlope", desc := "(I)I" } : Jvm.MethodName)) ∈ UW := uw_t4 2 rfl rfl
theorem mw_723 : (Jvm.Cond.code ({ cls := "MixerStation", name := "bestSlope", desc := "(I)I" } : Jvm.MethodName) prog_1_method_23_code (6 : Nat) (Option.some Jvm.ClassFile.FieldType.int)) ∈ UW := uw_t4 3 rfl rfl
theorem mw_725 : (Jvm.Cond.methodLink "MixerStationLaw" (150 : Nat) ({ cls := "MixerStationLaw", name := "leastPower", desc := "(LMixerStation;I)J" } : Jvm.MethodName)) ∈ UW := uw_t4 5 rfl rfl
theorem mw_726 : (Jvm.Cond.static ({ cls := "MixerStationLaw", name := "leastPower", desc := "(LMixerStation;I)J" } : Jvm.MethodName)) ∈ UW := uw_t4 6 rfl rfl
theorem mw_727 : (Jvm.Cond.codeWith ({ cls := "MixerStationLaw", name := "leastPower", desc := "(LMixerStation;I)J" } : Jvm.MethodName) method_22_code (3 : Nat) (Option.some Jvm.ClassFile.FieldType.long) [((0 : Nat), (6 : Nat), (7 : Nat), (15 : Nat))]) ∈ UW := uw_t4 7 rfl rfl
theorem mw_728 : (Jvm.Cond.methodLink "MixerStationLaw" (83 : Nat) ({ cls := "MixerStation", name := "leastPower", desc := "(I)I" } : Jvm.MethodName)) ∈ UW := uw_t4 8 rfl rfl
theorem mw_729 : (Jvm.Cond.instanceMethod ({ cls := "MixerStation", name := "leastPower", desc := "(I)I" } : Jvm.MethodName)) ∈ UW := uw_t4 9 rfl rfl
theorem mw_730 : (Jvm.Cond.selects "MixerStation" ({ cls := "MixerStation", name := "leastPower", desc := "(I)I" } : Jvm.MethodName) ({ cls := "MixerStation", name := "leastPower", desc := "(I)I" } : Jvm.MethodName)) ∈ UW := uw_t4 10 rfl rfl
theorem mw_731 : (Jvm.Cond.code ({ cls := "MixerStation", name := "leastPower", desc := "(I)I" } : Jvm.MethodName) prog_1_method_24_code (3 : Nat) (Option.some Jvm.ClassFile.FieldType.int)) ∈ UW := uw_t4 11 rfl rfl
theorem mw_732 : (Jvm.Cond.methodLink "MixerStation" (304 : Nat) ({ cls := "MixerStation", name := "allRoomsGetWarm", desc := "(LMixerStation$State;I)Z" } : Jvm.MethodName)) ∈ UW := uw_t4 12 rfl rfl
theorem mw_733 : (Jvm.Cond.static ({ cls := "MixerStation", name := "allRoomsGetWarm", desc := "(LMixerStation$State;I)Z" } : Jvm.MethodName)) ∈ UW := uw_t4 13 rfl rfl
theorem mw_734 : (Jvm.Cond.code ({ cls := "MixerStation", name := "allRoomsGetWarm", desc := "(LMixerStation$State;I)Z" } : Jvm.MethodName) prog_1_method_39_code (5 : Nat) (Option.some Jvm.ClassFile.FieldType.boolean)) ∈ UW := uw_t4 14 rfl rfl
theorem mw_735 : (Jvm.Cond.methodLink "MixerStation" (348 : Nat) ({ cls := "MixerStation$State", name := "warmRooms", desc := "()I" } : Jvm.MethodName)) ∈ UW := uw_t4 15 rfl rfl
theorem mw_736 : (Jvm.Cond.instanceMethod ({ cls := "MixerStation$State", name := "warmRooms", desc := "()I" } : Jvm.MethodName)) ∈ UW := uw_t4 16 rfl rfl
theorem mw_737 : (Jvm.Cond.selects "MixerStation$State" ({ cls := "MixerStation$State", name := "warmRooms", desc := "()I" } : Jvm.MethodName) ({ cls := "MixerStation$State", name := "warmRooms", desc := "()I" } : Jvm.MethodName)) ∈ UW := uw_t4 17 rfl rfl
theorem mw_738 : (Jvm.Cond.code ({ cls := "MixerStation$State", name := "warmRooms", desc := "()I" } : Jvm.MethodName) prog_5_method_19_code (3 : Nat) (Option.some Jvm.ClassFile.FieldType.int)) ∈ UW := uw_t4 18 rfl rfl
theorem mw_739 : (Jvm.Cond.methodLink "MixerStation$State" (119 : Nat) ({ cls := "MixerStation$State", name := "isAsWarmAsWanted", desc := "(I)Z" } : Jvm.MethodName)) ∈ UW := uw_t4 19 rfl rfl
theorem mw_740 : (Jvm.Cond.methodLink "MixerStationLaw" (152 : Nat) ({ cls := "MixerStationLaw", name := "heatFor", desc := "(LMixerStation;I)J" } : Jvm.MethodName)) ∈ UW := uw_t4 20 rfl rfl
theorem mw_741 : (Jvm.Cond.static ({ cls := "MixerStationLaw", name := "heatFor", desc := "(LMixerStation;I)J" } : Jvm.MethodName)) ∈ UW := uw_t4 21 rfl rfl
theorem mw_742 : (Jvm.Cond.codeWith ({ cls := "MixerStationLaw", name := "heatFor", desc := "(LMixerStation;I)J" } : Jvm.MethodName) method_23_code (3 : Nat) (Option.some Jvm.ClassFile.FieldType.long) [((0 : Nat), (6 : Nat), (7 : Nat), (15 : Nat))]) ∈ UW := uw_t4 22 rfl rfl
theorem mw_743 : (Jvm.Cond.methodLink "MixerStationLaw" (86 : Nat) ({ cls := "MixerStation", name := "heatFor", desc := "(I)I" } : Jvm.MethodName)) ∈ UW := uw_t4 23 rfl rfl
theorem mw_744 : (Jvm.Cond.instanceMethod ({ cls := "MixerStation", name := "heatFor", desc := "(I)I" } : Jvm.MethodName)) ∈ UW := uw_t4 24 rfl rfl
theorem mw_745 : (Jvm.Cond.selects "MixerStation" ({ cls := "MixerStation", name := "heatFor", desc := "(I)I" } : Jvm.MethodName) ({ cls := "MixerStation", name := "heatFor", desc := "(I)I" } : Jvm.MethodName)) ∈ UW := uw_t4 25 rfl rfl
theorem mw_746 : (Jvm.Cond.code ({ cls := "MixerStation", name := "heatFor", desc := "(I)I" } : Jvm.MethodName) prog_1_method_25_code (2 : Nat) (Option.some Jvm.ClassFile.FieldType.int)) ∈ UW := uw_t4 26 rfl rfl
theorem mw_747 : (Jvm.Cond.methodLink "MixerStation" (308 : Nat) ({ cls := "MixerStation$State", name := "heatMade", desc := "()I" } : Jvm.MethodName)) ∈ UW := uw_t4 27 rfl rfl
theorem mw_748 : (Jvm.Cond.instanceMethod ({ cls := "MixerStation$State", name := "heatMade", desc := "()I" } : Jvm.MethodName)) ∈ UW := uw_t4 28 rfl rfl
theorem mw_749 : (Jvm.Cond.selects "MixerStation$State" ({ cls := "MixerStation$State", name := "heatMade", desc := "()I" } : Jvm.MethodName) ({ cls := "MixerStation$State", name := "heatMade", desc := "()I" } : Jvm.MethodName)) ∈ UW := uw_t4 29 rfl rfl
theorem mw_750 : (Jvm.Cond.code ({ cls := "MixerStation$State", name := "heatMade", desc := "()I" } : Jvm.MethodName) prog_5_method_17_code (1 : Nat) (Option.some Jvm.ClassFile.FieldType.int)) ∈ UW := uw_t4 30 rfl rfl
theorem mw_751 : (Jvm.Cond.methodLink "MixerStation$State" (109 : Nat) ({ cls := "MixerStation$Ledger", name := "sumBetween", desc := "(II)I" } : Jvm.MethodName)) ∈ UW := uw_t4 31 rfl rfl
theorem mw_752 : (Jvm.Cond.methodLink "MixerStationLaw" (154 : Nat) ({ cls := "MixerStationLaw", name := "script", desc := "(LMixerStation;IJ)J" } : Jvm.MethodName)) ∈ UW := uw_t4 32 rfl rfl
theorem mw_753 : (Jvm.Cond.static ({ cls := "MixerStationLaw", name := "script", desc := "(LMixerStation;IJ)J" } : Jvm.MethodName)) ∈ UW := uw_t4 33 rfl rfl
theorem mw_754 : (Jvm.Cond.codeWith ({ cls := "MixerStationLaw", name := "script", desc := "(LMixerStation;IJ)J" } : Jvm.MethodName) method_24_code (5 : Nat) (Option.some Jvm.ClassFile.FieldType.long) [((0 : Nat), (7 : Nat), (8 : Nat), (15 : Nat))]) ∈ UW := uw_t4 34 rfl rfl
theorem mw_755 : (Jvm.Cond.methodLink "MixerStationLaw" (89 : Nat) ({ cls := "MixerStation", name := "runScript", desc := "(IJ)I" } : Jvm.MethodName)) ∈ UW := uw_t4 35 rfl rfl
theorem mw_756 : (Jvm.Cond.instanceMethod ({ cls := "MixerStation", name := "runScript", desc := "(IJ)I" } : Jvm.MethodName)) ∈ UW := uw_t4 36 rfl rfl
theorem mw_757 : (Jvm.Cond.selects "MixerStation" ({ cls := "MixerStation", name := "runScript", desc := "(IJ)I" } : Jvm.MethodName) ({ cls := "MixerStation", name := "runScript", desc := "(IJ)I" } : Jvm.MethodName)) ∈ UW := uw_t4 37 rfl rfl
theorem mw_758 : (Jvm.Cond.code ({ cls := "MixerStation", name := "runScript", desc := "(IJ)I" } : Jvm.MethodName) prog_1_method_26_code (5 : Nat) (Option.some Jvm.ClassFile.FieldType.int)) ∈ UW := uw_t4 38 rfl rfl
theorem mw_760 : (Jvm.Cond.methodLink "MixerStation" (313 : Nat) ({ cls := "MixerStation", name := "longestScript", desc := "(I)J" } : Jvm.MethodName)) ∈ UW := uw_t4 40 rfl rfl
theorem mw_761 : (Jvm.Cond.static ({ cls := "MixerStation", name := "longestScript", desc := "(I)J" } : Jvm.MethodName)) ∈ UW := uw_t4 41 rfl rfl
theorem mw_762 : (Jvm.Cond.code ({ cls := "MixerStation", name := "longestScript", desc := "(I)J" } : Jvm.MethodName) prog_1_method_40_code (4 : Nat) (Option.some Jvm.ClassFile.FieldType.long)) ∈ UW := uw_t4 42 rfl rfl
theorem mw_763 : (Jvm.Cond.constantLong "MixerStation" (351 : Nat) (10000 : Int64)) ∈ UW := uw_t4 43 rfl rfl
theorem mw_765 : (Jvm.Cond.methodLink "MixerStation" (319 : Nat) ({ cls := "MixerStation", name := "groupAt", desc := "(IJI)I" } : Jvm.MethodName)) ∈ UW := uw_t4 45 rfl rfl
theorem mw_766 : (Jvm.Cond.static ({ cls := "MixerStation", name := "groupAt", desc := "(IJI)I" } : Jvm.MethodName)) ∈ UW := uw_t4 46 rfl rfl
theorem mw_767 : (Jvm.Cond.code ({ cls := "MixerStation", name := "groupAt", desc := "(IJI)I" } : Jvm.MethodName) prog_1_method_41_code (7 : Nat) (Option.some Jvm.ClassFile.FieldType.int)) ∈ UW := uw_t4 47 rfl rfl
theorem mw_768 : (Jvm.Cond.methodLink "MixerStation" (323 : Nat) ({ cls := "MixerStation", name := "commandSucceeds", desc := "(LMixerStation$State;I)Z" } : Jvm.MethodName)) ∈ UW := uw_t4 48 rfl rfl
theorem mw_769 : (Jvm.Cond.static ({ cls := "MixerStation", name := "commandSucceeds", desc := "(LMixerStation$State;I)Z" } : Jvm.MethodName)) ∈ UW := uw_t4 49 rfl rfl
theorem mw_770 : (Jvm.Cond.code ({ cls := "MixerStation", name := "commandSucceeds", desc := "(LMixerStation$State;I)Z" } : Jvm.MethodName) prog_1_method_42_code (5 : Nat) (Option.some Jvm.ClassFile.FieldType.boolean)) ∈ UW := uw_t4 50 rfl rfl
theorem mw_771 : (Jvm.Cond.methodLink "MixerStation" (353 : Nat) ({ cls := "MixerStation", name := "outsideCommand", desc := "(LMixerStation$State;I)Z" } : Jvm.MethodName)) ∈ UW := uw_t4 51 rfl rfl
theorem mw_772 : (Jvm.Cond.static ({ cls := "MixerStation", name := "outsideCommand", desc := "(LMixerStation$State;I)Z" } : Jvm.MethodName)) ∈ UW := uw_t4 52 rfl rfl
theorem mw_773 : (Jvm.Cond.code ({ cls := "MixerStation", name := "outsideCommand", desc := "(LMixerStation$State;I)Z" } : Jvm.MethodName) prog_1_method_43_code (2 : Nat) (Option.some Jvm.ClassFile.FieldType.boolean)) ∈ UW := uw_t4 53 rfl rfl
theorem mw_774 : (Jvm.Cond.methodLink "MixerStation" (356 : Nat) ({ cls := "MixerStation", name := "settingCommand", desc := "(LMixerStation$State;II)Z" } : Jvm.MethodName)) ∈ UW := uw_t4 54 rfl rfl
theorem mw_775 : (Jvm.Cond.static ({ cls := "MixerStation", name := "settingCommand", desc := "(LMixerStation$State;II)Z" } : Jvm.MethodName)) ∈ UW := uw_t4 55 rfl rfl
theorem mw_776 : (Jvm.Cond.code ({ cls := "MixerStation", name := "settingCommand", desc := "(LMixerStation$State;II)Z" } : Jvm.MethodName) prog_1_method_44_code (3 : Nat) (Option.some Jvm.ClassFile.FieldType.boolean)) ∈ UW := uw_t4 56 rfl rfl
theorem mw_777 : (Jvm.Cond.methodLink "MixerStation" (360 : Nat) ({ cls := "MixerStation", name := "windowCommand", desc := "(LMixerStation$State;IZ)Z" } : Jvm.MethodName)) ∈ UW := uw_t4 57 rfl rfl
theorem mw_778 : (Jvm.Cond.static ({ cls := "MixerStation", name := "windowCommand", desc := "(LMixerStation$State;IZ)Z" } : Jvm.MethodName)) ∈ UW := uw_t4 58 rfl rfl
theorem mw_779 : (Jvm.Cond.code ({ cls := "MixerStation", name := "windowCommand", desc := "(LMixerStation$State;IZ)Z" } : Jvm.MethodName) prog_1_method_45_code (3 : Nat) (Option.some Jvm.ClassFile.FieldType.boolean)) ∈ UW := uw_t4 59 rfl rfl
theorem mw_780 : (Jvm.Cond.methodLink "MixerStation" (332 : Nat) ({ cls := "MixerStation$State", name := "turnWindow", desc := "(IZ)V" } : Jvm.MethodName)) ∈ UW := uw_t4 60 rfl rfl
theorem mw_781 : (Jvm.Cond.instanceMethod ({ cls := "MixerStation$State", name := "turnWindow", desc := "(IZ)V" } : Jvm.MethodName)) ∈ UW := uw_t4 61 rfl rfl
theorem mw_782 : (Jvm.Cond.selects "MixerStation$State" ({ cls := "MixerStation$State", name := "turnWindow", desc := "(IZ)V" } : Jvm.MethodName) ({ cls := "MixerStation$State", name := "turnWindow", desc := "(IZ)V" } : Jvm.MethodName)) ∈ UW := uw_t4 62 rfl rfl
theorem mw_783 : (Jvm.Cond.code ({ cls := "MixerStation$State", name := "turnWindow", desc := "(IZ)V" } : Jvm.MethodName) prog_5_method_9_code (3 : Nat) (Option.none : Option Jvm.ClassFile.FieldType)) ∈ UW := uw_t4 63 rfl rfl
theorem mw_784 : (Jvm.Cond.methodLink "MixerStation" (364 : Nat) ({ cls := "MixerStation", name := "wantedCommand", desc := "(LMixerStation$State;II)Z" } : Jvm.MethodName)) ∈ UW := uw_t4 64 rfl rfl
theorem mw_785 : (Jvm.Cond.static ({ cls := "MixerStation", name := "wantedCommand", desc := "(LMixerStation$State;II)Z" } : Jvm.MethodName)) ∈ UW := uw_t4 65 rfl rfl
theorem mw_786 : (Jvm.Cond.code ({ cls := "MixerStation", name := "wantedCommand", desc := "(LMixerStation$State;II)Z" } : Jvm.MethodName) prog_1_method_46_code (3 : Nat) (Option.some Jvm.ClassFile.FieldType.boolean)) ∈ UW := uw_t4 66 rfl rfl
theorem mw_787 : (Jvm.Cond.constantLong "MixerStationLaw" (158 : Nat) (10000000000000000 : Int64)) ∈ UW := uw_t4 67 rfl rfl
theorem mw_788 : (Jvm.Cond.methodLink "MixerStationLaw" (160 : Nat) ({ cls := "MixerStationLaw", name := "simulate", desc := "(LMixerStation;JI)J" } : Jvm.MethodName)) ∈ UW := uw_t4 68 rfl rfl
theorem mw_789 : (Jvm.Cond.static ({ cls := "MixerStationLaw", name := "simulate", desc := "(LMixerStation;JI)J" } : Jvm.MethodName)) ∈ UW := uw_t4 69 rfl rfl
theorem mw_790 : (Jvm.Cond.codeWith ({ cls := "MixerStationLaw", name := "simulate", desc := "(LMixerStation;JI)J" } : Jvm.MethodName) method_25_code (5 : Nat) (Option.some Jvm.ClassFile.FieldType.long) [((0 : Nat), (6 : Nat), (7 : Nat), (15 : Nat))]) ∈ UW := uw_t4 70 rfl rfl
theorem mw_791 : (Jvm.Cond.methodLink "MixerStationLaw" (93 : Nat) ({ cls := "MixerStation", name := "simulate", desc := "(JI)J" } : Jvm.MethodName)) ∈ UW := uw_t4 71 rfl rfl
theorem mw_792 : (Jvm.Cond.instanceMethod ({ cls := "MixerStation", name := "simulate", desc := "(JI)J" } : Jvm.MethodName)) ∈ UW := uw_t4 72 rfl rfl
theorem mw_793 : (Jvm.Cond.selects "MixerStation" ({ cls := "MixerStation", name := "simulate", desc := "(JI)J" } : Jvm.MethodName) ({ cls := "MixerStation", name := "simulate", desc := "(JI)J" } : Jvm.MethodName)) ∈ UW := uw_t4 73 rfl rfl
theorem mw_794 : (Jvm.Cond.code ({ cls := "MixerStation", name := "simulate", desc := "(JI)J" } : Jvm.MethodName) prog_1_method_27_code (8 : Nat) (Option.some Jvm.ClassFile.FieldType.long)) ∈ UW := uw_t4 74 rfl rfl
theorem mw_796 : (Jvm.Cond.constantLong "MixerStation" (328 : Nat) (6364136223846793005 : Int64)) ∈ UW := uw_t4 76 rfl rfl
theorem mw_797 : (Jvm.Cond.constantLong "MixerStation" (330 : Nat) (1442695040888963407 : Int64)) ∈ UW := uw_t4 77 rfl rfl
theorem mw_798 : (Jvm.Cond.constantLong "MixerStation" (336 : Nat) (1000000 : Int64)) ∈ UW := uw_t4 78 rfl rfl
theorem mw_799 : (Jvm.Cond.methodLink "MixerStationLaw" (167 : Nat) ({ cls := "MixerStationLaw", name := "append", desc := "(LMixerStation;I)J" } : Jvm.MethodName)) ∈ UW := uw_t4 79 rfl rfl
theorem mw_800 : (Jvm.Cond.static ({ cls := "MixerStationLaw", name := "append", desc := "(LMixerStation;I)J" } : Jvm.MethodName)) ∈ UW := uw_t4 80 rfl rfl
theorem mw_801 : (Jvm.Cond.codeWith ({ cls := "MixerStationLaw", name := "append", desc := "(LMixerStation;I)J" } : Jvm.MethodName) method_4_code (3 : Nat) (Option.some Jvm.ClassFile.FieldType.long) [((0 : Nat), (6 : Nat), (7 : Nat), (15 : Nat)), ((0 : Nat), (6 : Nat), (12 : Nat), (19 : Nat))]) ∈ UW := uw_t4 81 rfl rfl
theorem mw_802 : (Jvm.Cond.methodLink "MixerStationLaw" (9 : Nat) ({ cls := "MixerStation", name := "append", desc := "(I)I" } : Jvm.MethodName)) ∈ UW := uw_t4 82 rfl rfl
theorem mw_803 : (Jvm.Cond.instanceMethod ({ cls := "MixerStation", name := "append", desc := "(I)I" } : Jvm.MethodName)) ∈ UW := uw_t4 83 rfl rfl
theorem mw_804 : (Jvm.Cond.selects "MixerStation" ({ cls := "MixerStation", name := "append", desc := "(I)I" } : Jvm.MethodName) ({ cls := "MixerStation", name := "append", desc := "(I)I" } : Jvm.MethodName)) ∈ UW := uw_t4 84 rfl rfl
theorem mw_805 : (Jvm.Cond.code ({ cls := "MixerStation", name := "append", desc := "(I)I" } : Jvm.MethodName) prog_1_method_2_code (2 : Nat) (Option.some Jvm.ClassFile.FieldType.int)) ∈ UW := uw_t4 85 rfl rfl
theorem mw_808 : (Jvm.Cond.methodLink "MixerStationLaw" (236 : Nat) ({ cls := "MixerStationLaw", name := "kept", desc := "(LMixerStation;)Z" } : Jvm.MethodName)) ∈ UW := uw_t4 88 rfl rfl
theorem mw_809 : (Jvm.Cond.static ({ cls := "MixerStationLaw", name := "kept", desc := "(LMixerStation;)Z" } : Jvm.MethodName)) ∈ UW := uw_t4 89 rfl rfl
theorem mw_810 : (Jvm.Cond.code ({ cls := "MixerStationLaw", name := "kept", desc := "(LMixerStation;)Z" } : Jvm.MethodName) method_30_code (14 : Nat) (Option.some Jvm.ClassFile.FieldType.boolean)) ∈ UW := uw_t4 90 rfl rfl
theorem mw_811 : (Jvm.Cond.constantLong "MixerStationLaw" (169 : Nat) (9 : Int64)) ∈ UW := uw_t4 91 rfl rfl
theorem mw_812 : (Jvm.Cond.methodLink "MixerStationLaw" (171 : Nat) ({ cls := "MixerStationLaw", name := "in", desc := "(JJJ)Z" } : Jvm.MethodName)) ∈ UW := uw_t4 92 rfl rfl
theorem mw_813 : (Jvm.Cond.static ({ cls := "MixerStationLaw", name := "in", desc := "(JJJ)Z" } : Jvm.MethodName)) ∈ UW := uw_t4 93 rfl rfl
theorem mw_814 : (Jvm.Cond.code ({ cls := "MixerStationLaw", name := "in", desc := "(JJJ)Z" } : Jvm.MethodName) method_3_code (6 : Nat) (Option.some Jvm.ClassFile.FieldType.boolean)) ∈ UW := uw_t4 94 rfl rfl
theorem mw_815 : (Jvm.Cond.constantLong "MixerStationLaw" (175 : Nat) (15 : Int64)) ∈ UW := uw_t4 95 rfl rfl
theorem mw_816 : (Jvm.Cond.constantLong "MixerStationLaw" (177 : Nat) (100 : Int64)) ∈ UW := uw_t4 96 rfl rfl
theorem mw_817 : (Jvm.Cond.constantLong "MixerStationLaw" (179 : Nat) (59 : Int64)) ∈ UW := uw_t4 97 rfl rfl
theorem mw_818 : (Jvm.Cond.constantLong "MixerStationLaw" (181 : Nat) (20 : Int64)) ∈ UW := uw_t4 98 rfl rfl
theorem mw_819 : (Jvm.Cond.constantLong "MixerStationLaw" (183 : Nat) (70 : Int64)) ∈ UW := uw_t4 99 rfl rfl
theorem mw_820 : (Jvm.Cond.constantLong "MixerStationLaw" (185 : Nat) (-99999 : Int64)) ∈ UW := uw_t4 100 rfl rfl
theorem mw_821 : (Jvm.Cond.methodLink "MixerStationLaw" (247 : Nat) ({ cls := "MixerStationLaw", name := "follows", desc := "(LMixerStation;I)Z" } : Jvm.MethodName)) ∈ UW := uw_t4 101 rfl rfl
theorem mw_822 : (Jvm.Cond.static ({ cls := "MixerStationLaw", name := "follows", desc := "(LMixerStation;I)Z" } : Jvm.MethodName)) ∈ UW := uw_t4 102 rfl rfl
theorem mw_823 : (Jvm.Cond.code ({ cls := "MixerStationLaw", name := "follows", desc := "(LMixerStation;I)Z" } : Jvm.MethodName) method_31_code (36 : Nat) (Option.some Jvm.ClassFile.FieldType.boolean)) ∈ UW := uw_t4 103 rfl rfl
theorem mw_824 : (Jvm.Cond.methodLink "MixerStationLaw" (187 : Nat) ({ cls := "MixerStationLaw", name := "o", desc := "(LMixerStation;Z)I" } : Jvm.MethodName)) ∈ UW := uw_t4 104 rfl rfl
theorem mw_825 : (Jvm.Cond.static ({ cls := "MixerStationLaw", name := "o", desc := "(LMixerStation;Z)I" } : Jvm.MethodName)) ∈ UW := uw_t4 105 rfl rfl
theorem mw_826 : (Jvm.Cond.code ({ cls := "MixerStationLaw", name := "o", desc := "(LMixerStation;Z)I" } : Jvm.MethodName) method_32_code (2 : Nat) (Option.some Jvm.ClassFile.FieldType.int)) ∈ UW := uw_t4 106 rfl rfl
theorem mw_827 : (Jvm.Cond.methodLink "MixerStationLaw" (203 : Nat) ({ cls := "MixerStation", name := "whyOff", desc := "()I" } : Jvm.MethodName)) ∈ UW := uw_t4 107 rfl rfl
theorem mw_828 : (Jvm.Cond.instanceMethod ({ cls := "MixerStation", name := "whyOff", desc := "()I" } : Jvm.MethodName)) ∈ UW := uw_t4 108 rfl rfl
theorem mw_829 : (Jvm.Cond.selects "MixerStation" ({ cls := "MixerStation", name := "whyOff", desc := "()I" } : Jvm.MethodName) ({ cls := "MixerStation", name := "whyOff", desc := "()I" } : Jvm.MethodName)) ∈ UW := uw_t4 109 rfl rfl
theorem mw_830 : (Jvm.Cond.code ({ cls := "MixerStation", name := "whyOff", desc := "()I" } : Jvm.MethodName) prog_1_method_21_code (1 : Nat) (Option.some Jvm.ClassFile.FieldType.int)) ∈ UW := uw_t4 110 rfl rfl
theorem mw_831 : (Jvm.Cond.methodLink "MixerStation" (281 : Nat) ({ cls := "MixerStation$State", name := "turnSeason", desc := "()V" } : Jvm.MethodName)) ∈ UW := uw_t4 111 rfl rfl
theorem mw_832 : (Jvm.Cond.methodLink "MixerStation" (284 : Nat) ({ cls := "MixerStation$State", name := "runBoiler", desc := "()V" } : Jvm.MethodName)) ∈ UW := uw_t4 112 rfl rfl
theorem mw_833 : (Jvm.Cond.methodLink "MixerStationLaw" (206 : Nat) ({ cls := "MixerStation", name := "whyShare", desc := "()I" } : Jvm.MethodName)) ∈ UW := uw_t4 113 rfl rfl
theorem mw_834 : (Jvm.Cond.instanceMethod ({ cls := "MixerStation", name := "whyShare", desc := "()I" } : Jvm.MethodName)) ∈ UW := uw_t4 114 rfl rfl
theorem mw_835 : (Jvm.Cond.selects "MixerStation" ({ cls := "MixerStation", name := "whyShare", desc := "()I" } : Jvm.MethodName) ({ cls := "MixerStation", name := "whyShare", desc := "()I" } : Jvm.MethodName)) ∈ UW := uw_t4 115 rfl rfl
theorem mw_836 : (Jvm.Cond.code ({ cls := "MixerStation", name := "whyShare", desc := "()I" } : Jvm.MethodName) prog_1_method_22_code (1 : Nat) (Option.some Jvm.ClassFile.FieldType.int)) ∈ UW := uw_t4 116 rfl rfl
theorem mw_837 : (Jvm.Cond.methodLink "MixerStation" (287 : Nat) ({ cls := "MixerStation$State", name := "moveValve", desc := "()V" } : Jvm.MethodName)) ∈ UW := uw_t4 117 rfl rfl
theorem mw_838 : (Jvm.Cond.methodLink "MixerStation" (290 : Nat) ({ cls := "MixerStation$State", name := "freeTarget", desc := "()I" } : Jvm.MethodName)) ∈ UW := uw_t4 118 rfl rfl
theorem mw_839 : (Jvm.Cond.methodLink "MixerStation" (293 : Nat) ({ cls := "MixerStation$State", name := "isPinched", desc := "()Z" } : Jvm.MethodName)) ∈ UW := uw_t4 119 rfl rfl
theorem mw_840 : (Jvm.Cond.constantLong "MixerStationLaw" (191 : Nat) (1000 : Int64)) ∈ UW := uw_t4 120 rfl rfl
theorem mw_841 : (Jvm.Cond.methodLink "MixerStationLaw" (193 : Nat) ({ cls := "MixerStationLaw", name := "undo", desc := "(LMixerStation;)J" } : Jvm.MethodName)) ∈ UW := uw_t4 121 rfl rfl
theorem mw_842 : (Jvm.Cond.static ({ cls := "MixerStationLaw", name := "undo", desc := "(LMixerStation;)J" } : Jvm.MethodName)) ∈ UW := uw_t4 122 rfl rfl
theorem mw_843 : (Jvm.Cond.codeWith ({ cls := "MixerStationLaw", name := "undo", desc := "(LMixerStation;)J" } : Jvm.MethodName) method_18_code (2 : Nat) (Option.some Jvm.ClassFile.FieldType.long) [((0 : Nat), (5 : Nat), (6 : Nat), (19 : Nat))]) ∈ UW := uw_t4 123 rfl rfl
theorem mw_844 : (Jvm.Cond.methodLink "MixerStationLaw" (71 : Nat) ({ cls := "MixerStation", name := "undo", desc := "()I" } : Jvm.MethodName)) ∈ UW := uw_t4 124 rfl rfl
theorem mw_845 : (Jvm.Cond.instanceMethod ({ cls := "MixerStation", name := "undo", desc := "()I" } : Jvm.MethodName)) ∈ UW := uw_t4 125 rfl rfl
theorem mw_846 : (Jvm.Cond.selects "MixerStation" ({ cls := "MixerStation", name := "undo", desc := "()I" } : Jvm.MethodName) ({ cls := "MixerStation", name := "undo", desc := "()I" } : Jvm.MethodName)) ∈ UW := uw_t4 126 rfl rfl
theorem mw_847 : (Jvm.Cond.code ({ cls := "MixerStation", name := "undo", desc := "()I" } : Jvm.MethodName) prog_1_method_18_code (1 : Nat) (Option.some Jvm.ClassFile.FieldType.int)) ∈ UW := uw_t4 127 rfl rfl
theorem mw_848 : (Jvm.Cond.methodLink "MixerStation" (267 : Nat) ({ cls := "MixerStation$History", name := "isEmpty", desc := "()Z" } : Jvm.MethodName)) ∈ UW := uw_t4 128 rfl rfl
theorem mw_849 : (Jvm.Cond.instanceMethod ({ cls := "MixerStation$History", name := "isEmpty", desc := "()Z" } : Jvm.MethodName)) ∈ UW := uw_t4 129 rfl rfl
theorem mw_850 : (Jvm.Cond.selects "MixerStation$History" ({ cls := "MixerStation$History", name := "isEmpty", desc := "()Z" } : Jvm.MethodName) ({ cls := "MixerStation$History", name := "isEmpty", desc := "()Z" } : Jvm.MethodName)) ∈ UW := uw_t4 130 rfl rfl
theorem mw_851 : (Jvm.Cond.code ({ cls := "MixerStation$History", name := "isEmpty", desc := "()Z" } : Jvm.MethodName) prog_2_method_2_code (1 : Nat) (Option.some Jvm.ClassFile.FieldType.boolean)) ∈ UW := uw_t4 131 rfl rfl
theorem mw_853 : (Jvm.Cond.methodLink "MixerStation" (272 : Nat) ({ cls := "MixerStation$History", name := "takeBackInto", desc := "(LMixerStation$State;)V" } : Jvm.MethodName)) ∈ UW := uw_t4 133 rfl rfl
theorem mw_854 : (Jvm.Cond.instanceMethod ({ cls := "MixerStation$History", name := "takeBackInto", desc := "(LMixerStation$State;)V" } : Jvm.MethodName)) ∈ UW := uw_t4 134 rfl rfl
theorem mw_855 : (Jvm.Cond.selects "MixerStation$History" ({ cls := "MixerStation$History", name := "takeBackInto", desc := "(LMixerStation$State;)V" } : Jvm.MethodName) ({ cls := "MixerStation$History", name := "takeBackInto", desc := "(LMixerStation$State;)V" } : Jvm.MethodName)) ∈ UW := uw_t4 135 rfl rfl
theorem mw_856 : (Jvm.Cond.code ({ cls := "MixerStation$History", name := "takeBackInto", desc := "(LMixerStation$State;)V" } : Jvm.MethodName) prog_2_method_6_code (3 : Nat) (Option.none : Option Jvm.ClassFile.FieldType)) ∈ UW := uw_t4 136 rfl rfl
theorem mw_857 : (Jvm.Cond.constantLong "MixerStationLaw" (195 : Nat) (30 : Int64)) ∈ UW := uw_t4 137 rfl rfl
theorem mw_858 : (Jvm.Cond.constantLong "MixerStationLaw" (197 : Nat) (10 : Int64)) ∈ UW := uw_t4 138 rfl rfl
theorem mw_859 : (Jvm.Cond.constantLong "MixerStationLaw" (199 : Nat) (200 : Int64)) ∈ UW := uw_t4 139 rfl rfl
theorem mw_860 : (Jvm.Cond.constantLong "MixerStationLaw" (201 : Nat) (1000000 : Int64)) ∈ UW := uw_t4 140 rfl rfl
theorem mw_861 : (Jvm.Cond.methodLink "MixerStationLaw" (228 : Nat) ({ cls := "MixerStationLaw", name := "alike", desc := "(LMixerStation;LMixerStation;I)Z" } : Jvm.MethodName)) ∈ UW := uw_t4 141 rfl rfl
theorem mw_862 : (Jvm.Cond.static ({ cls := "MixerStationLaw", name := "alike", desc := "(LMixerStation;LMixerStation;I)Z" } : Jvm.MethodName)) ∈ UW := uw_t4 142 rfl rfl
theorem mw_863 : (Jvm.Cond.code ({ cls := "MixerStationLaw", name := "alike", desc := "(LMixerStation;LMixerStation;I)Z" } : Jvm.MethodName) method_33_code (4 : Nat) (Option.some Jvm.ClassFile.FieldType.boolean)) ∈ UW := uw_t4 143 rfl rfl
theorem mw_864 : (Jvm.Cond.methodLink "MixerStationLaw" (209 : Nat) ({ cls := "MixerStation", name := "errorPosition", desc := "()I" } : Jvm.MethodName)) ∈ UW := uw_t4 144 rfl rfl
theorem mw_865 : (Jvm.Cond.instanceMethod ({ cls := "MixerStation", name := "errorPosition", desc := "()I" } : Jvm.MethodName)) ∈ UW := uw_t4 145 rfl rfl
theorem mw_866 : (Jvm.Cond.selects "MixerStation" ({ cls := "MixerStation", name := "errorPosition", desc := "()I" } : Jvm.MethodName) ({ cls := "MixerStation", name := "errorPosition", desc := "()I" } : Jvm.MethodName)) ∈ UW := uw_t4 146 rfl rfl
theorem mw_867 : (Jvm.Cond.code ({ cls := "MixerStation", name := "errorPosition", desc := "()I" } : Jvm.MethodName) prog_1_method_4_code (2 : Nat) (Option.some Jvm.ClassFile.FieldType.int)) ∈ UW := uw_t4 147 rfl rfl
theorem mw_868 : (Jvm.Cond.constantLong "MixerStationLaw" (212 : Nat) (10301000 : Int64)) ∈ UW := uw_t4 148 rfl rfl
theorem mw_869 : (Jvm.Cond.methodLink "MixerStationLaw" (239 : Nat) ({ cls := "MixerStationLaw", name := "tells", desc := "(LMixerStation;II)Z" } : Jvm.MethodName)) ∈ UW := uw_t4 149 rfl rfl
theorem mw_870 : (Jvm.Cond.static ({ cls := "MixerStationLaw", name := "tells", desc := "(LMixerStation;II)Z" } : Jvm.MethodName)) ∈ UW := uw_t4 150 rfl rfl
theorem mw_871 : (Jvm.Cond.code ({ cls := "MixerStationLaw", name := "tells", desc := "(LMixerStation;II)Z" } : Jvm.MethodName) method_35_code (6 : Nat) (Option.some Jvm.ClassFile.FieldType.boolean)) ∈ UW := uw_t4 151 rfl rfl
theorem mw_872 : (Jvm.Cond.methodLink "MixerStationLaw" (214 : Nat) ({ cls := "MixerStation", name := "clearText", desc := "()I" } : Jvm.MethodName)) ∈ UW := uw_t4 152 rfl rfl
theorem mw_873 : (Jvm.Cond.instanceMethod ({ cls := "MixerStation", name := "clearText", desc := "()I" } : Jvm.MethodName)) ∈ UW := uw_t4 153 rfl rfl
theorem mw_874 : (Jvm.Cond.selects "MixerStation" ({ cls := "MixerStation", name := "clearText", desc := "()I" } : Jvm.MethodName) ({ cls := "MixerStation", name := "clearText", desc := "()I" } : Jvm.MethodName)) ∈ UW := uw_t4 154 rfl rfl
theorem mw_875 : (Jvm.Cond.code ({ cls := "MixerStation", name := "clearText", desc := "()I" } : Jvm.MethodName) prog_1_method_3_code (2 : Nat) (Option.some Jvm.ClassFile.FieldType.int)) ∈ UW := uw_t4 155 rfl rfl
theorem mw_876 : (Jvm.Cond.methodLink "MixerStationLaw" (217 : Nat) ({ cls := "MixerStationLaw", name := "types", desc := "(LMixerStation;II)Z" } : Jvm.MethodName)) ∈ UW := uw_t4 156 rfl rfl
theorem mw_877 : (Jvm.Cond.static ({ cls := "MixerStationLaw", name := "types", desc := "(LMixerStation;II)Z" } : Jvm.MethodName)) ∈ UW := uw_t4 157 rfl rfl
theorem mw_878 : (Jvm.Cond.code ({ cls := "MixerStationLaw", name := "types", desc := "(LMixerStation;II)Z" } : Jvm.MethodName) method_34_code (5 : Nat) (Option.some Jvm.ClassFile.FieldType.boolean)) ∈ UW := uw_t4 158 rfl rfl
theorem mw_879 : (Jvm.Cond.constant "MixerStationLaw" (221 : Nat) (65535 : Int32)) ∈ UW := uw_t4 159 rfl rfl
theorem mw_880 : (Jvm.Cond.constant "MixerStationLaw" (222 : Nat) (-99999 : Int32)) ∈ UW := uw_t4 160 rfl rfl
theorem mw_881 : (Jvm.Cond.methodLink "MixerStationLaw" (244 : Nat) ({ cls := "MixerStationLaw", name := "act", desc := "(LMixerStation;II)J" } : Jvm.MethodName)) ∈ UW := uw_t4 161 rfl rfl
theorem mw_882 : (Jvm.Cond.static ({ cls := "MixerStationLaw", name := "act", desc := "(LMixerStation;II)J" } : Jvm.MethodName)) ∈ UW := uw_t4 162 rfl rfl
theorem mw_883 : (Jvm.Cond.code ({ cls := "MixerStationLaw", name := "act", desc := "(LMixerStation;II)J" } : Jvm.MethodName) method_36_code (4 : Nat) (Option.some Jvm.ClassFile.FieldType.long)) ∈ UW := uw_t4 163 rfl rfl
theorem mw_884 : (Jvm.Cond.constant "MixerStationLaw" (251 : Nat) (83003 : Int32)) ∈ UW := uw_t4 164 rfl rfl
theorem ms_0 : Cond.selects "MixerStation$StationReader" ⟨"MixerStation$StationReader", "readHead", "(LMixerStation$State;)Z"⟩ ⟨"MixerStation$StationReader", "readHead", "(LMixerStation$State;)Z"⟩ ∈ UW := uw_in (List.mem_append_left _ (List.mem_of_getElem? (l := k2_sels lw_privs) (i := 0) rfl)) rfl
theorem ms_1 : Cond.selects "MixerStation$StationReader" ⟨"MixerStation$StationReader", "here", "()I"⟩ ⟨"MixerStation$StationReader", "here", "()I"⟩ ∈ UW := uw_in (List.mem_append_left _ (List.mem_of_getElem? (l := k2_sels lw_privs) (i := 1) rfl)) rfl
theorem ms_2 : Cond.selects "MixerStation$StationReader" ⟨"MixerStation$StationReader", "readSetting", "(LMixerStation$State;II)Z"⟩ ⟨"MixerStation$StationReader", "readSetting", "(LMixerStation$State;II)Z"⟩ ∈ UW := uw_in (List.mem_append_left _ (List.mem_of_getElem? (l := k2_sels lw_privs) (i := 2) rfl)) rfl
theorem ms_3 : Cond.selects "MixerStation$StationReader" ⟨"MixerStation$StationReader", "readNumber", "(III)I"⟩ ⟨"MixerStation$StationReader", "readNumber", "(III)I"⟩ ∈ UW := uw_in (List.mem_append_left _ (List.mem_of_getElem? (l := k2_sels lw_privs) (i := 3) rfl)) rfl
theorem ms_4 : Cond.selects "MixerStation$StationReader" ⟨"MixerStation$StationReader", "readPart", "(LMixerStation$State;)Z"⟩ ⟨"MixerStation$StationReader", "readPart", "(LMixerStation$State;)Z"⟩ ∈ UW := uw_in (List.mem_append_left _ (List.mem_of_getElem? (l := k2_sels lw_privs) (i := 4) rfl)) rfl
theorem ms_5 : Cond.selects "MixerStation$StationReader" ⟨"MixerStation$StationReader", "readRoom", "(LMixerStation$State;)Z"⟩ ⟨"MixerStation$StationReader", "readRoom", "(LMixerStation$State;)Z"⟩ ∈ UW := uw_in (List.mem_append_left _ (List.mem_of_getElem? (l := k2_sels lw_privs) (i := 5) rfl)) rfl
theorem ms_6 : Cond.selects "MixerStation$State" ⟨"MixerStation$State", "move", "(III)V"⟩ ⟨"MixerStation$State", "move", "(III)V"⟩ ∈ UW := uw_in (List.mem_append_left _ (List.mem_of_getElem? (l := k2_sels lw_privs) (i := 6) rfl)) rfl
theorem ms_7 : Cond.selects "MixerStation$State" ⟨"MixerStation$State", "addHeat", "(II)V"⟩ ⟨"MixerStation$State", "addHeat", "(II)V"⟩ ∈ UW := uw_in (List.mem_append_left _ (List.mem_of_getElem? (l := k2_sels lw_privs) (i := 7) rfl)) rfl
theorem ms_8 : Cond.selects "MixerStation$StationReader" ⟨"MixerStation$StationReader", "readOutside", "(LMixerStation$State;)Z"⟩ ⟨"MixerStation$StationReader", "readOutside", "(LMixerStation$State;)Z"⟩ ∈ UW := uw_in (List.mem_append_left _ (List.mem_of_getElem? (l := k2_sels lw_privs) (i := 8) rfl)) rfl
theorem ms_9 : Cond.selects "java/lang/Throwable" ⟨"java/lang/Throwable", "fillInStackTrace", "(I)Ljava/lang/Throwable;"⟩ ⟨"java/lang/Throwable", "fillInStackTrace", "(I)Ljava/lang/Throwable;"⟩ ∈ UW := uw_in (List.mem_append_left _ (List.mem_of_getElem? (l := k2_sels lw_privs) (i := 9) rfl)) rfl
theorem ms_10 : Cond.selects "MixerStation$History" ⟨"MixerStation$History", "forgetOldest", "()V"⟩ ⟨"MixerStation$History", "forgetOldest", "()V"⟩ ∈ UW := uw_in (List.mem_append_left _ (List.mem_of_getElem? (l := k2_sels lw_privs) (i := 10) rfl)) rfl
theorem ms_11 : Cond.selects "MixerStation$State" ⟨"MixerStation$State", "mustStop", "()Z"⟩ ⟨"MixerStation$State", "mustStop", "()Z"⟩ ∈ UW := uw_in (List.mem_append_left _ (List.mem_of_getElem? (l := k2_sels lw_privs) (i := 11) rfl)) rfl
theorem ms_12 : Cond.selects "MixerStation$State" ⟨"MixerStation$State", "mayStart", "()Z"⟩ ⟨"MixerStation$State", "mayStart", "()Z"⟩ ∈ UW := uw_in (List.mem_append_left _ (List.mem_of_getElem? (l := k2_sels lw_privs) (i := 12) rfl)) rfl
theorem ms_13 : Cond.selects "MixerStation$State" ⟨"MixerStation$State", "mix", "()V"⟩ ⟨"MixerStation$State", "mix", "()V"⟩ ∈ UW := uw_in (List.mem_append_left _ (List.mem_of_getElem? (l := k2_sels lw_privs) (i := 13) rfl)) rfl
theorem ms_14 : Cond.selects "MixerStation$State" ⟨"MixerStation$State", "heatRooms", "()V"⟩ ⟨"MixerStation$State", "heatRooms", "()V"⟩ ∈ UW := uw_in (List.mem_append_left _ (List.mem_of_getElem? (l := k2_sels lw_privs) (i := 14) rfl)) rfl
theorem ms_15 : Cond.selects "MixerStation$State" ⟨"MixerStation$State", "leakRooms", "()V"⟩ ⟨"MixerStation$State", "leakRooms", "()V"⟩ ∈ UW := uw_in (List.mem_append_left _ (List.mem_of_getElem? (l := k2_sels lw_privs) (i := 15) rfl)) rfl
theorem ms_16 : Cond.selects "MixerStation$State" ⟨"MixerStation$State", "judgeRooms", "()V"⟩ ⟨"MixerStation$State", "judgeRooms", "()V"⟩ ∈ UW := uw_in (List.mem_append_left _ (List.mem_of_getElem? (l := k2_sels lw_privs) (i := 16) rfl)) rfl
