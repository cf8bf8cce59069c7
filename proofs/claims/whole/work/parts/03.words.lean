/-- the words that every method may use: those of the tables that stay true as the machine goes on -/
def UW : List Cond := lw_tbl.filter goodWord
theorem uw_in {w : Cond} (h : w ∈ lw_tbl) (hg : goodWord w = true) : w ∈ UW := List.mem_filter.mpr ⟨h, hg⟩
theorem uw_tb {w : Cond} (i : Nat) (h : tables_1[i]? = some w) (hg : goodWord w = true) : w ∈ UW := uw_in (List.mem_append_right _ (List.mem_of_getElem? h)) hg
theorem uw_t1 {w : Cond} (i : Nat) (h : tables_1_1[i]? = some w) (hg : goodWord w = true) : w ∈ UW := uw_in (List.mem_append_right _ (show w ∈ tables_1 from List.mem_append_left _ (List.mem_of_getElem? h))) hg
theorem uw_t2 {w : Cond} (i : Nat) (h : tables_1_2[i]? = some w) (hg : goodWord w = true) : w ∈ UW := uw_in (List.mem_append_right _ (show w ∈ tables_1 from List.mem_append_right _ (List.mem_append_left _ (List.mem_of_getElem? h)))) hg
theorem uw_t3 {w : Cond} (i : Nat) (h : tables_1_3[i]? = some w) (hg : goodWord w = true) : w ∈ UW := uw_in (List.mem_append_right _ (show w ∈ tables_1 from List.mem_append_right _ (List.mem_append_right _ (List.mem_append_left _ (List.mem_of_getElem? h))))) hg
theorem uw_t4 {w : Cond} (i : Nat) (h : tables_1_4[i]? = some w) (hg : goodWord w = true) : w ∈ UW := uw_in (List.mem_append_right _ (show w ∈ tables_1 from List.mem_append_right _ (List.mem_append_right _ (List.mem_append_right _ (List.mem_append_left _ (List.mem_of_getElem? h)))))) hg
theorem uw_t5 {w : Cond} (i : Nat) (h : tables_1_5[i]? = some w) (hg : goodWord w = true) : w ∈ UW := uw_in (List.mem_append_right _ (show w ∈ tables_1 from List.mem_append_right _ (List.mem_append_right _ (List.mem_append_right _ (List.mem_append_right _ (List.mem_of_getElem? h)))))) hg
theorem mw_0 : (Jvm.Cond.initialized "MixerStationLaw") ∈ UW := uw_t1 0 rfl rfl
theorem mw_1 : (Jvm.Cond.initialized "MixerStation") ∈ UW := uw_t1 1 rfl rfl
theorem mw_2 : (Jvm.Cond.initialized "MixerStation$State") ∈ UW := uw_t1 2 rfl rfl
theorem mw_3 : (Jvm.Cond.initialized "MixerStation$Ledger") ∈ UW := uw_t1 3 rfl rfl
theorem mw_4 : (Jvm.Cond.initialized "MixerStation$Room") ∈ UW := uw_t1 4 rfl rfl
theorem mw_5 : (Jvm.Cond.initialized "java/lang/System") ∈ UW := uw_t1 5 rfl rfl
theorem mw_6 : (Jvm.Cond.initialized "MixerStation$History") ∈ UW := uw_t1 6 rfl rfl
theorem mw_7 : (Jvm.Cond.initialized "MixerStationModel") ∈ UW := uw_t1 7 rfl rfl
theorem mw_8 : (Jvm.Cond.initialized "java/lang/Throwable") ∈ UW := uw_t1 8 rfl rfl
theorem mw_9 : (Jvm.Cond.initialized "java/lang/Exception") ∈ UW := uw_t1 9 rfl rfl
theorem mw_10 : (Jvm.Cond.initialized "java/lang/RuntimeException") ∈ UW := uw_t1 10 rfl rfl
theorem mw_11 : (Jvm.Cond.initialized "java/lang/IllegalArgumentException") ∈ UW := uw_t1 11 rfl rfl
theorem mw_12 : (Jvm.Cond.initialized "java/lang/IllegalStateException") ∈ UW := uw_t1 12 rfl rfl
theorem mw_13 : (Jvm.Cond.initialized "MixerStation$StationReader") ∈ UW := uw_t1 13 rfl rfl
theorem mw_14 : (Jvm.Cond.initialized "java/lang/Math") ∈ UW := uw_t1 14 rfl rfl
theorem mw_15 : (Jvm.Cond.initialized "java/lang/IndexOutOfBoundsException") ∈ UW := uw_t1 15 rfl rfl
theorem mw_16 : (Jvm.Cond.classLink "MixerStationLaw" (8 : Nat) "MixerStation") ∈ UW := uw_t1 16 rfl rfl
theorem mw_17 : (Jvm.Cond.instantiable "MixerStation" (7 : Nat)) ∈ UW := uw_t1 17 rfl rfl
theorem mw_18 : (Jvm.Cond.methodLink "MixerStationLaw" (95 : Nat) ({ cls := "MixerStation", name := "<init>", desc := "()V" } : Jvm.MethodName)) ∈ UW := uw_t1 18 rfl rfl
theorem mw_19 : (Jvm.Cond.instanceMethod ({ cls := "MixerStation", name := "<init>", desc := "()V" } : Jvm.MethodName)) ∈ UW := uw_t1 19 rfl rfl
theorem mw_20 : (Jvm.Cond.code ({ cls := "MixerStation", name := "<init>", desc := "()V" } : Jvm.MethodName) prog_1_method_1_code (2 : Nat) (Option.none : Option Jvm.ClassFile.FieldType)) ∈ UW := uw_t1 20 rfl rfl
theorem mw_21 : (Jvm.Cond.methodLink "MixerStation" (3 : Nat) ({ cls := "java/lang/Object", name := "<init>", desc := "()V" } : Jvm.MethodName)) ∈ UW := uw_t1 21 rfl rfl
theorem mw_22 : (Jvm.Cond.instanceMethod ({ cls := "java/lang/Object", name := "<init>", desc := "()V" } : Jvm.MethodName)) ∈ UW := uw_t1 22 rfl rfl
theorem mw_23 : (Jvm.Cond.code ({ cls := "java/lang/Object", name := "<init>", desc := "()V" } : Jvm.MethodName) object_method_1_code (1 : Nat) (Option.none : Option Jvm.ClassFile.FieldType)) ∈ UW := uw_t1 23 rfl rfl
theorem mw_24 : (Jvm.Cond.classLink "MixerStation" (13 : Nat) "MixerStation$State") ∈ UW := uw_t1 24 rfl rfl
theorem mw_25 : (Jvm.Cond.instantiable "MixerStation$State" (14 : Nat)) ∈ UW := uw_t1 25 rfl rfl
theorem mw_26 : (Jvm.Cond.methodLink "MixerStation" (15 : Nat) ({ cls := "MixerStation$State", name := "<init>", desc := "()V" } : Jvm.MethodName)) ∈ UW := uw_t1 26 rfl rfl
theorem mw_27 : (Jvm.Cond.instanceMethod ({ cls := "MixerStation$State", name := "<init>", desc := "()V" } : Jvm.MethodName)) ∈ UW := uw_t1 27 rfl rfl
theorem mw_28 : (Jvm.Cond.code ({ cls := "MixerStation$State", name := "<init>", desc := "()V" } : Jvm.MethodName) prog_5_method_1_code (2 : Nat) (Option.none : Option Jvm.ClassFile.FieldType)) ∈ UW := uw_t1 28 rfl rfl
theorem mw_29 : (Jvm.Cond.methodLink "MixerStation$State" (3 : Nat) ({ cls := "java/lang/Object", name := "<init>", desc := "()V" } : Jvm.MethodName)) ∈ UW := uw_t1 29 rfl rfl
theorem mw_30 : (Jvm.Cond.classLink "MixerStation$State" (21 : Nat) "MixerStation$Room") ∈ UW := uw_t1 30 rfl rfl
theorem mw_32 : (Jvm.Cond.classLink "MixerStation$State" (27 : Nat) "MixerStation$Ledger") ∈ UW := uw_t1 32 rfl rfl
theorem mw_33 : (Jvm.Cond.instantiable "MixerStation$Ledger" (4 : Nat)) ∈ UW := uw_t1 33 rfl rfl
theorem mw_35 : (Jvm.Cond.instanceMethod ({ cls := "MixerStation$Ledger", name := "<init>", desc := "()V" } : Jvm.MethodName)) ∈ UW := uw_t1 35 rfl rfl
theorem mw_36 : (Jvm.Cond.code ({ cls := "MixerStation$Ledger", name := "<init>", desc := "()V" } : Jvm.MethodName) prog_3_method_1_code (1 : Nat) (Option.none : Option Jvm.ClassFile.FieldType)) ∈ UW := uw_t1 36 rfl rfl
theorem mw_37 : (Jvm.Cond.methodLink "MixerStation$Ledger" (3 : Nat) ({ cls := "java/lang/Object", name := "<init>", desc := "()V" } : Jvm.MethodName)) ∈ UW := uw_t1 37 rfl rfl
theorem mw_38 : (Jvm.Cond.fieldLink "MixerStation$Ledger" (9 : Nat) "MixerStation$Ledger" "from" "[I") ∈ UW := uw_t1 38 rfl rfl
theorem mw_39 : (Jvm.Cond.fieldLink "MixerStation" (196 : Nat) "MixerStation$Ledger" "from" "[I") ∈ UW := uw_t1 39 rfl rfl
theorem mw_40 : (Jvm.Cond.fieldLink "MixerStation$Ledger" (15 : Nat) "MixerStation$Ledger" "to" "[I") ∈ UW := uw_t1 40 rfl rfl
theorem mw_41 : (Jvm.Cond.fieldLink "MixerStation" (200 : Nat) "MixerStation$Ledger" "to" "[I") ∈ UW := uw_t1 41 rfl rfl
theorem mw_42 : (Jvm.Cond.fieldLink "MixerStation$Ledger" (18 : Nat) "MixerStation$Ledger" "sum" "[I") ∈ UW := uw_t1 42 rfl rfl
theorem mw_43 : (Jvm.Cond.fieldLink "MixerStation" (203 : Nat) "MixerStation$Ledger" "sum" "[I") ∈ UW := uw_t1 43 rfl rfl
theorem mw_44 : (Jvm.Cond.fieldLink "MixerStation$Ledger" (27 : Nat) "MixerStation$Ledger" "count" "I") ∈ UW := uw_t1 44 rfl rfl
theorem mw_45 : (Jvm.Cond.fieldLink "MixerStation$State" (67 : Nat) "MixerStation$Ledger" "count" "I") ∈ UW := uw_t1 45 rfl rfl
theorem mw_46 : (Jvm.Cond.fieldLink "MixerStation" (115 : Nat) "MixerStation$Ledger" "count" "I") ∈ UW := uw_t1 46 rfl rfl
theorem mw_47 : (Jvm.Cond.laysFinal "MixerStation$Ledger" "MixerStation$Ledger" "from" "[I") ∈ UW := uw_t1 47 rfl rfl
theorem mw_49 : (Jvm.Cond.laysFinal "MixerStation$Ledger" "MixerStation$Ledger" "to" "[I") ∈ UW := uw_t1 49 rfl rfl
theorem mw_51 : (Jvm.Cond.laysFinal "MixerStation$Ledger" "MixerStation$Ledger" "sum" "[I") ∈ UW := uw_t1 51 rfl rfl
theorem mw_53 : (Jvm.Cond.lays "MixerStation$Ledger" "MixerStation$Ledger" "count" "I") ∈ UW := uw_t1 53 rfl rfl
theorem mw_56 : (Jvm.Cond.arrayClass Jvm.ClassFile.FieldType.char) ∈ UW := uw_t1 56 rfl rfl
theorem mw_57 : (Jvm.Cond.arrayClass Jvm.ClassFile.FieldType.int) ∈ UW := uw_t1 57 rfl rfl
theorem mw_58 : (Jvm.Cond.instantiable "MixerStation$Room" (7 : Nat)) ∈ UW := uw_t1 58 rfl rfl
theorem mw_60 : (Jvm.Cond.instanceMethod ({ cls := "MixerStation$Room", name := "<init>", desc := "()V" } : Jvm.MethodName)) ∈ UW := uw_t1 60 rfl rfl
theorem mw_61 : (Jvm.Cond.code ({ cls := "MixerStation$Room", name := "<init>", desc := "()V" } : Jvm.MethodName) prog_4_method_1_code (1 : Nat) (Option.none : Option Jvm.ClassFile.FieldType)) ∈ UW := uw_t1 61 rfl rfl
theorem mw_62 : (Jvm.Cond.methodLink "MixerStation$Room" (1 : Nat) ({ cls := "java/lang/Object", name := "<init>", desc := "()V" } : Jvm.MethodName)) ∈ UW := uw_t1 62 rfl rfl
theorem mw_63 : (Jvm.Cond.fieldLink "MixerStation$Room" (7 : Nat) "MixerStation$Room" "wanted" "I") ∈ UW := uw_t1 63 rfl rfl
theorem mw_64 : (Jvm.Cond.fieldLink "MixerStation" (160 : Nat) "MixerStation$Room" "wanted" "I") ∈ UW := uw_t1 64 rfl rfl
theorem mw_65 : (Jvm.Cond.fieldLink "MixerStation$State" (116 : Nat) "MixerStation$Room" "wanted" "I") ∈ UW := uw_t1 65 rfl rfl
theorem mw_66 : (Jvm.Cond.fieldLink "MixerStation$Room" (13 : Nat) "MixerStation$Room" "radiators" "I") ∈ UW := uw_t1 66 rfl rfl
theorem mw_67 : (Jvm.Cond.fieldLink "MixerStation" (165 : Nat) "MixerStation$Room" "radiators" "I") ∈ UW := uw_t1 67 rfl rfl
theorem mw_68 : (Jvm.Cond.fieldLink "MixerStation$State" (169 : Nat) "MixerStation$Room" "radiators" "I") ∈ UW := uw_t1 68 rfl rfl
theorem mw_69 : (Jvm.Cond.fieldLink "MixerStation$Room" (16 : Nat) "MixerStation$Room" "leak" "I") ∈ UW := uw_t1 69 rfl rfl
theorem mw_70 : (Jvm.Cond.fieldLink "MixerStation" (168 : Nat) "MixerStation$Room" "leak" "I") ∈ UW := uw_t1 70 rfl rfl
theorem mw_71 : (Jvm.Cond.fieldLink "MixerStation$State" (172 : Nat) "MixerStation$Room" "leak" "I") ∈ UW := uw_t1 71 rfl rfl
theorem mw_72 : (Jvm.Cond.fieldLink "MixerStation$Room" (19 : Nat) "MixerStation$Room" "open" "Z") ∈ UW := uw_t1 72 rfl rfl
theorem mw_73 : (Jvm.Cond.fieldLink "MixerStation$State" (90 : Nat) "MixerStation$Room" "open" "Z") ∈ UW := uw_t1 73 rfl rfl
theorem mw_74 : (Jvm.Cond.fieldLink "MixerStation" (171 : Nat) "MixerStation$Room" "open" "Z") ∈ UW := uw_t1 74 rfl rfl
theorem mw_75 : (Jvm.Cond.fieldLink "MixerStation$Room" (23 : Nat) "MixerStation$Room" "comfort" "I") ∈ UW := uw_t1 75 rfl rfl
theorem mw_76 : (Jvm.Cond.fieldLink "MixerStation" (174 : Nat) "MixerStation$Room" "comfort" "I") ∈ UW := uw_t1 76 rfl rfl
theorem mw_77 : (Jvm.Cond.fieldLink "MixerStation$State" (106 : Nat) "MixerStation$Room" "comfort" "I") ∈ UW := uw_t1 77 rfl rfl
theorem mw_78 : (Jvm.Cond.fieldLink "MixerStation$Room" (26 : Nat) "MixerStation$Room" "cold" "I") ∈ UW := uw_t1 78 rfl rfl
theorem mw_79 : (Jvm.Cond.fieldLink "MixerStation" (177 : Nat) "MixerStation$Room" "cold" "I") ∈ UW := uw_t1 79 rfl rfl
theorem mw_80 : (Jvm.Cond.fieldLink "MixerStation$Room" (29 : Nat) "MixerStation$Room" "warm" "I") ∈ UW := uw_t1 80 rfl rfl
theorem mw_81 : (Jvm.Cond.fieldLink "MixerStation" (180 : Nat) "MixerStation$Room" "warm" "I") ∈ UW := uw_t1 81 rfl rfl
theorem mw_82 : (Jvm.Cond.lays "MixerStation$Room" "MixerStation$Room" "wanted" "I") ∈ UW := uw_t1 82 rfl rfl
theorem mw_84 : (Jvm.Cond.lays "MixerStation$Room" "MixerStation$Room" "radiators" "I") ∈ UW := uw_t1 84 rfl rfl
theorem mw_86 : (Jvm.Cond.lays "MixerStation$Room" "MixerStation$Room" "leak" "I") ∈ UW := uw_t1 86 rfl rfl
theorem mw_88 : (Jvm.Cond.lays "MixerStation$Room" "MixerStation$Room" "open" "Z") ∈ UW := uw_t1 88 rfl rfl
theorem mw_90 : (Jvm.Cond.lays "MixerStation$Room" "MixerStation$Room" "comfort" "I") ∈ UW := uw_t1 90 rfl rfl
theorem mw_92 : (Jvm.Cond.lays "MixerStation$Room" "MixerStation$Room" "cold" "I") ∈ UW := uw_t1 92 rfl rfl
theorem mw_94 : (Jvm.Cond.lays "MixerStation$Room" "MixerStation$Room" "warm" "I") ∈ UW := uw_t1 94 rfl rfl
theorem mw_97 : (Jvm.Cond.methodLink "MixerStation$State" (35 : Nat) ({ cls := "MixerStation$State", name := "beginAnew", desc := "()V" } : Jvm.MethodName)) ∈ UW := uw_t1 97 rfl rfl
theorem mw_98 : (Jvm.Cond.instanceMethod ({ cls := "MixerStation$State", name := "beginAnew", desc := "()V" } : Jvm.MethodName)) ∈ UW := uw_t1 98 rfl rfl
theorem mw_99 : (Jvm.Cond.selects "MixerStation$State" ({ cls := "MixerStation$State", name := "beginAnew", desc := "()V" } : Jvm.MethodName) ({ cls := "MixerStation$State", name := "beginAnew", desc := "()V" } : Jvm.MethodName)) ∈ UW := uw_t1 99 rfl rfl
theorem mw_100 : (Jvm.Cond.code ({ cls := "MixerStation$State", name := "beginAnew", desc := "()V" } : Jvm.MethodName) prog_5_method_2_code (1 : Nat) (Option.none : Option Jvm.ClassFile.FieldType)) ∈ UW := uw_t1 100 rfl rfl
theorem mw_103 : (Jvm.Cond.methodLink "MixerStation$State" (73 : Nat) ({ cls := "java/lang/System", name := "arraycopy", desc := "(Ljava/lang/Object;ILjava/lang/Object;II)V" } : Jvm.MethodName)) ∈ UW := uw_t1 103 rfl rfl
theorem mw_104 : (Jvm.Cond.static ({ cls := "java/lang/System", name := "arraycopy", desc := "(Ljava/lang/Object;ILjava/lang/Object;II)V" } : Jvm.MethodName)) ∈ UW := uw_t1 104 rfl rfl
theorem mw_105 : (Jvm.Cond.native ({ cls := "java/lang/System", name := "arraycopy", desc := "(Ljava/lang/Object;ILjava/lang/Object;II)V" } : Jvm.MethodName)) ∈ UW := uw_t1 105 rfl rfl
theorem mw_106 : (Jvm.Cond.fieldLink "MixerStation$State" (38 : Nat) "MixerStation$State" "minutes" "I") ∈ UW := uw_t1 106 rfl rfl
theorem mw_107 : (Jvm.Cond.fieldLink "MixerStation" (79 : Nat) "MixerStation$State" "minutes" "I") ∈ UW := uw_t1 107 rfl rfl
theorem mw_108 : (Jvm.Cond.fieldLink "MixerStation$State" (42 : Nat) "MixerStation$State" "outdoors" "I") ∈ UW := uw_t1 108 rfl rfl
theorem mw_109 : (Jvm.Cond.fieldLink "MixerStation" (82 : Nat) "MixerStation$State" "outdoors" "I") ∈ UW := uw_t1 109 rfl rfl
theorem mw_110 : (Jvm.Cond.fieldLink "MixerStation$StationReader" (71 : Nat) "MixerStation$State" "outdoors" "I") ∈ UW := uw_t1 110 rfl rfl
theorem mw_111 : (Jvm.Cond.fieldLink "MixerStation$State" (45 : Nat) "MixerStation$State" "burning" "Z") ∈ UW := uw_t1 111 rfl rfl
theorem mw_112 : (Jvm.Cond.fieldLink "MixerStation" (85 : Nat) "MixerStation$State" "burning" "Z") ∈ UW := uw_t1 112 rfl rfl
theorem mw_113 : (Jvm.Cond.fieldLink "MixerStation$State" (49 : Nat) "MixerStation$State" "sinceSwitch" "I") ∈ UW := uw_t1 113 rfl rfl
theorem mw_114 : (Jvm.Cond.fieldLink "MixerStation" (89 : Nat) "MixerStation$State" "sinceSwitch" "I") ∈ UW := uw_t1 114 rfl rfl
theorem mw_115 : (Jvm.Cond.fieldLink "MixerStation$State" (52 : Nat) "MixerStation$State" "starts" "I") ∈ UW := uw_t1 115 rfl rfl
theorem mw_116 : (Jvm.Cond.fieldLink "MixerStation" (105 : Nat) "MixerStation$State" "starts" "I") ∈ UW := uw_t1 116 rfl rfl
theorem mw_117 : (Jvm.Cond.fieldLink "MixerStation$State" (55 : Nat) "MixerStation$State" "share" "I") ∈ UW := uw_t1 117 rfl rfl
theorem mw_118 : (Jvm.Cond.fieldLink "MixerStation" (92 : Nat) "MixerStation$State" "share" "I") ∈ UW := uw_t1 118 rfl rfl
theorem mw_119 : (Jvm.Cond.fieldLink "MixerStation$State" (58 : Nat) "MixerStation$State" "summer" "Z") ∈ UW := uw_t1 119 rfl rfl
theorem mw_120 : (Jvm.Cond.fieldLink "MixerStation" (95 : Nat) "MixerStation$State" "summer" "Z") ∈ UW := uw_t1 120 rfl rfl
theorem mw_121 : (Jvm.Cond.fieldLink "MixerStation$State" (61 : Nat) "MixerStation$State" "seasonCounter" "I") ∈ UW := uw_t1 121 rfl rfl
theorem mw_122 : (Jvm.Cond.fieldLink "MixerStation" (98 : Nat) "MixerStation$State" "seasonCounter" "I") ∈ UW := uw_t1 122 rfl rfl
theorem mw_123 : (Jvm.Cond.fieldLink "MixerStation$State" (64 : Nat) "MixerStation$State" "roomCount" "I") ∈ UW := uw_t1 123 rfl rfl
theorem mw_124 : (Jvm.Cond.fieldLink "MixerStation" (76 : Nat) "MixerStation$State" "roomCount" "I") ∈ UW := uw_t1 124 rfl rfl
theorem mw_125 : (Jvm.Cond.fieldLink "MixerStation$State" (9 : Nat) "MixerStation$State" "settings" "[I") ∈ UW := uw_t1 125 rfl rfl
theorem mw_126 : (Jvm.Cond.fieldLink "MixerStation$State" (15 : Nat) "MixerStation$State" "heat" "[I") ∈ UW := uw_t1 126 rfl rfl
theorem mw_127 : (Jvm.Cond.fieldLink "MixerStation$State" (18 : Nat) "MixerStation$State" "capacity" "[I") ∈ UW := uw_t1 127 rfl rfl
theorem mw_128 : (Jvm.Cond.fieldLink "MixerStation$State" (23 : Nat) "MixerStation$State" "rooms" "[LMixerStation$Room;") ∈ UW := uw_t1 128 rfl rfl
theorem mw_129 : (Jvm.Cond.fieldLink "MixerStation" (156 : Nat) "MixerStation$State" "rooms" "[LMixerStation$Room;") ∈ UW := uw_t1 129 rfl rfl
theorem mw_130 : (Jvm.Cond.fieldLink "MixerStation$State" (30 : Nat) "MixerStation$State" "ledger" "LMixerStation$Ledger;") ∈ UW := uw_t1 130 rfl rfl
theorem mw_131 : (Jvm.Cond.fieldLink "MixerStation" (111 : Nat) "MixerStation$State" "ledger" "LMixerStation$Ledger;") ∈ UW := uw_t1 131 rfl rfl
theorem mw_132 : (Jvm.Cond.lays "MixerStation$State" "MixerStation$State" "minutes" "I") ∈ UW := uw_t1 132 rfl rfl
theorem mw_134 : (Jvm.Cond.lays "MixerStation$State" "MixerStation$State" "outdoors" "I") ∈ UW := uw_t1 134 rfl rfl
theorem mw_136 : (Jvm.Cond.lays "MixerStation$State" "MixerStation$State" "burning" "Z") ∈ UW := uw_t1 136 rfl rfl
theorem mw_138 : (Jvm.Cond.lays "MixerStation$State" "MixerStation$State" "sinceSwitch" "I") ∈ UW := uw_t1 138 rfl rfl
theorem mw_140 : (Jvm.Cond.lays "MixerStation$State" "MixerStation$State" "starts" "I") ∈ UW := uw_t1 140 rfl rfl
theorem mw_142 : (Jvm.Cond.lays "MixerStation$State" "MixerStation$State" "share" "I") ∈ UW := uw_t1 142 rfl rfl
theorem mw_144 : (Jvm.Cond.lays "MixerStation$State" "MixerStation$State" "summer" "Z") ∈ UW := uw_t1 144 rfl rfl
theorem mw_146 : (Jvm.Cond.lays "MixerStation$State" "MixerStation$State" "seasonCounter" "I") ∈ UW := uw_t1 146 rfl rfl
theorem mw_148 : (Jvm.Cond.lays "MixerStation$State" "MixerStation$State" "roomCount" "I") ∈ UW := uw_t1 148 rfl rfl
theorem mw_150 : (Jvm.Cond.laysFinal "MixerStation$State" "MixerStation$State" "settings" "[I") ∈ UW := uw_t1 150 rfl rfl
theorem mw_152 : (Jvm.Cond.laysFinal "MixerStation$State" "MixerStation$State" "heat" "[I") ∈ UW := uw_t1 152 rfl rfl
theorem mw_154 : (Jvm.Cond.laysFinal "MixerStation$State" "MixerStation$State" "capacity" "[I") ∈ UW := uw_t1 154 rfl rfl
theorem mw_156 : (Jvm.Cond.laysFinal "MixerStation$State" "MixerStation$State" "rooms" "[LMixerStation$Room;") ∈ UW := uw_t1 156 rfl rfl
theorem mw_158 : (Jvm.Cond.laysFinal "MixerStation$State" "MixerStation$State" "ledger" "LMixerStation$Ledger;") ∈ UW := uw_t1 158 rfl rfl
theorem mw_161 : (Jvm.Cond.classLink "MixerStation" (23 : Nat) "MixerStation$History") ∈ UW := uw_t1 161 rfl rfl
theorem mw_162 : (Jvm.Cond.instantiable "MixerStation$History" (2 : Nat)) ∈ UW := uw_t1 162 rfl rfl
theorem mw_163 : (Jvm.Cond.methodLink "MixerStation" (25 : Nat) ({ cls := "MixerStation$History", name := "<init>", desc := "()V" } : Jvm.MethodName)) ∈ UW := uw_t1 163 rfl rfl
theorem mw_164 : (Jvm.Cond.instanceMethod ({ cls := "MixerStation$History", name := "<init>", desc := "()V" } : Jvm.MethodName)) ∈ UW := uw_t1 164 rfl rfl
theorem mw_165 : (Jvm.Cond.code ({ cls := "MixerStation$History", name := "<init>", desc := "()V" } : Jvm.MethodName) prog_2_method_1_code (2 : Nat) (Option.none : Option Jvm.ClassFile.FieldType)) ∈ UW := uw_t1 165 rfl rfl
theorem mw_166 : (Jvm.Cond.methodLink "MixerStation$History" (3 : Nat) ({ cls := "java/lang/Object", name := "<init>", desc := "()V" } : Jvm.MethodName)) ∈ UW := uw_t1 166 rfl rfl
theorem mw_167 : (Jvm.Cond.classLink "MixerStation$History" (9 : Nat) "MixerStation$State") ∈ UW := uw_t1 167 rfl rfl
theorem mw_169 : (Jvm.Cond.methodLink "MixerStation$History" (17 : Nat) ({ cls := "MixerStation$State", name := "<init>", desc := "()V" } : Jvm.MethodName)) ∈ UW := uw_t1 169 rfl rfl
theorem mw_170 : (Jvm.Cond.fieldLink "MixerStation$History" (11 : Nat) "MixerStation$History" "states" "[LMixerStation$State;") ∈ UW := uw_t1 170 rfl rfl
theorem mw_171 : (Jvm.Cond.fieldLink "MixerStation$History" (18 : Nat) "MixerStation$History" "count" "I") ∈ UW := uw_t1 171 rfl rfl
theorem mw_172 : (Jvm.Cond.fieldLink "MixerStation" (275 : Nat) "MixerStation$History" "count" "I") ∈ UW := uw_t1 172 rfl rfl
theorem mw_173 : (Jvm.Cond.laysFinal "MixerStation$History" "MixerStation$History" "states" "[LMixerStation$State;") ∈ UW := uw_t1 173 rfl rfl
theorem mw_175 : (Jvm.Cond.lays "MixerStation$History" "MixerStation$History" "count" "I") ∈ UW := uw_t1 175 rfl rfl
theorem mw_178 : (Jvm.Cond.fieldLink "MixerStation" (9 : Nat) "MixerStation" "text" "[C") ∈ UW := uw_t1 178 rfl rfl
theorem mw_179 : (Jvm.Cond.fieldLink "MixerStation" (45 : Nat) "MixerStation" "textLength" "I") ∈ UW := uw_t1 179 rfl rfl
theorem mw_180 : (Jvm.Cond.fieldLink "MixerStation" (16 : Nat) "MixerStation" "state" "LMixerStation$State;") ∈ UW := uw_t1 180 rfl rfl
theorem mw_181 : (Jvm.Cond.fieldLink "MixerStation" (20 : Nat) "MixerStation" "copy" "LMixerStation$State;") ∈ UW := uw_t1 181 rfl rfl
theorem mw_182 : (Jvm.Cond.fieldLink "MixerStation" (26 : Nat) "MixerStation" "history" "LMixerStation$History;") ∈ UW := uw_t1 182 rfl rfl
theorem mw_183 : (Jvm.Cond.fieldLink "MixerStation" (30 : Nat) "MixerStation" "slots" "[LMixerStation$State;") ∈ UW := uw_t1 183 rfl rfl
theorem mw_184 : (Jvm.Cond.fieldLink "MixerStation" (34 : Nat) "MixerStation" "saved" "[Z") ∈ UW := uw_t1 184 rfl rfl
theorem mw_185 : (Jvm.Cond.laysFinal "MixerStation" "MixerStation" "text" "[C") ∈ UW := uw_t1 185 rfl rfl
theorem mw_187 : (Jvm.Cond.lays "MixerStation" "MixerStation" "textLength" "I") ∈ UW := uw_t1 187 rfl rfl
theorem mw_189 : (Jvm.Cond.laysFinal "MixerStation" "MixerStation" "state" "LMixerStation$State;") ∈ UW := uw_t1 189 rfl rfl
theorem mw_191 : (Jvm.Cond.laysFinal "MixerStation" "MixerStation" "copy" "LMixerStation$State;") ∈ UW := uw_t1 191 rfl rfl
theorem mw_193 : (Jvm.Cond.laysFinal "MixerStation" "MixerStation" "history" "LMixerStation$History;") ∈ UW := uw_t1 193 rfl rfl
theorem mw_195 : (Jvm.Cond.laysFinal "MixerStation" "MixerStation" "slots" "[LMixerStation$State;") ∈ UW := uw_t1 195 rfl rfl
theorem mw_197 : (Jvm.Cond.laysFinal "MixerStation" "MixerStation" "saved" "[Z") ∈ UW := uw_t1 197 rfl rfl
theorem mw_200 : (Jvm.Cond.arrayClass Jvm.ClassFile.FieldType.boolean) ∈ UW := uw_t1 200 rfl rfl
theorem mw_201 : (Jvm.Cond.methodLink "MixerStationLaw" (108 : Nat) ({ cls := "MixerStation", name := "clearText", desc := "()I" } : Jvm.MethodName)) ∈ UW := uw_t1 201 rfl rfl
theorem mw_202 : (Jvm.Cond.instanceMethod ({ cls := "MixerStation", name := "clearText", desc := "()I" } : Jvm.MethodName)) ∈ UW := uw_t1 202 rfl rfl
theorem mw_203 : (Jvm.Cond.selects "MixerStation" ({ cls := "MixerStation", name := "clearText", desc := "()I" } : Jvm.MethodName) ({ cls := "MixerStation", name := "clearText", desc := "()I" } : Jvm.MethodName)) ∈ UW := uw_t1 203 rfl rfl
theorem mw_204 : (Jvm.Cond.code ({ cls := "MixerStation", name := "clearText", desc := "()I" } : Jvm.MethodName) prog_1_method_3_code (2 : Nat) (Option.some Jvm.ClassFile.FieldType.int)) ∈ UW := uw_t1 204 rfl rfl
theorem mw_205 : (Jvm.Cond.methodLink "MixerStationLaw" (112 : Nat) ({ cls := "MixerStation", name := "errorPosition", desc := "()I" } : Jvm.MethodName)) ∈ UW := uw_t1 205 rfl rfl
theorem mw_206 : (Jvm.Cond.instanceMethod ({ cls := "MixerStation", name := "errorPosition", desc := "()I" } : Jvm.MethodName)) ∈ UW := uw_t1 206 rfl rfl
theorem mw_207 : (Jvm.Cond.selects "MixerStation" ({ cls := "MixerStation", name := "errorPosition", desc := "()I" } : Jvm.MethodName) ({ cls := "MixerStation", name := "errorPosition", desc := "()I" } : Jvm.MethodName)) ∈ UW := uw_t1 207 rfl rfl
theorem mw_208 : (Jvm.Cond.code ({ cls := "MixerStation", name := "errorPosition", desc := "()I" } : Jvm.MethodName) prog_1_method_4_code (2 : Nat) (Option.some Jvm.ClassFile.FieldType.int)) ∈ UW := uw_t1 208 rfl rfl
theorem mw_209 : (Jvm.Cond.classLink "MixerStation" (54 : Nat) "MixerStation$StationReader") ∈ UW := uw_t1 209 rfl rfl
theorem mw_210 : (Jvm.Cond.instantiable "MixerStation$StationReader" (3 : Nat)) ∈ UW := uw_t1 210 rfl rfl
theorem mw_211 : (Jvm.Cond.methodLink "MixerStation" (56 : Nat) ({ cls := "MixerStation$StationReader", name := "<init>", desc := "([CI)V" } : Jvm.MethodName)) ∈ UW := uw_t1 211 rfl rfl
theorem mw_212 : (Jvm.Cond.instanceMethod ({ cls := "MixerStation$StationReader", name := "<init>", desc := "([CI)V" } : Jvm.MethodName)) ∈ UW := uw_t1 212 rfl rfl
theorem mw_213 : (Jvm.Cond.code ({ cls := "MixerStation$StationReader", name := "<init>", desc := "([CI)V" } : Jvm.MethodName) prog_6_method_1_code (3 : Nat) (Option.none : Option Jvm.ClassFile.FieldType)) ∈ UW := uw_t1 213 rfl rfl
theorem mw_214 : (Jvm.Cond.methodLink "MixerStation$StationReader" (3 : Nat) ({ cls := "java/lang/Object", name := "<init>", desc := "()V" } : Jvm.MethodName)) ∈ UW := uw_t1 214 rfl rfl
theorem mw_215 : (Jvm.Cond.fieldLink "MixerStation$StationReader" (9 : Nat) "MixerStation$StationReader" "text" "[C") ∈ UW := uw_t1 215 rfl rfl
theorem mw_216 : (Jvm.Cond.fieldLink "MixerStation$StationReader" (15 : Nat) "MixerStation$StationReader" "length" "I") ∈ UW := uw_t1 216 rfl rfl
theorem mw_217 : (Jvm.Cond.fieldLink "MixerStation$StationReader" (28 : Nat) "MixerStation$StationReader" "position" "I") ∈ UW := uw_t1 217 rfl rfl
theorem mw_218 : (Jvm.Cond.fieldLink "MixerStation" (64 : Nat) "MixerStation$StationReader" "position" "I") ∈ UW := uw_t1 218 rfl rfl
theorem mw_219 : (Jvm.Cond.laysFinal "MixerStation$StationReader" "MixerStation$StationReader" "text" "[C") ∈ UW := uw_t1 219 rfl rfl
theorem mw_221 : (Jvm.Cond.laysFinal "MixerStation$StationReader" "MixerStation$StationReader" "length" "I") ∈ UW := uw_t1 221 rfl rfl
theorem mw_223 : (Jvm.Cond.lays "MixerStation$StationReader" "MixerStation$StationReader" "position" "I") ∈ UW := uw_t1 223 rfl rfl
theorem mw_226 : (Jvm.Cond.methodLink "MixerStation" (59 : Nat) ({ cls := "MixerStation$StationReader", name := "readInto", desc := "(LMixerStation$State;)Z" } : Jvm.MethodName)) ∈ UW := uw_t1 226 rfl rfl
theorem mw_227 : (Jvm.Cond.instanceMethod ({ cls := "MixerStation$StationReader", name := "readInto", desc := "(LMixerStation$State;)Z" } : Jvm.MethodName)) ∈ UW := uw_t1 227 rfl rfl
theorem mw_228 : (Jvm.Cond.selects "MixerStation$StationReader" ({ cls := "MixerStation$StationReader", name := "readInto", desc := "(LMixerStation$State;)Z" } : Jvm.MethodName) ({ cls := "MixerStation$StationReader", name := "readInto", desc := "(LMixerStation$State;)Z" } : Jvm.MethodName)) ∈ UW := uw_t1 228 rfl rfl
theorem mw_229 : (Jvm.Cond.code ({ cls := "MixerStation$StationReader", name := "readInto", desc := "(LMixerStation$State;)Z" } : Jvm.MethodName) prog_6_method_2_code (3 : Nat) (Option.some Jvm.ClassFile.FieldType.boolean)) ∈ UW := uw_t1 229 rfl rfl
theorem mw_230 : (Jvm.Cond.methodLink "MixerStation$StationReader" (19 : Nat) ({ cls := "MixerStation$State", name := "beginAnew", desc := "()V" } : Jvm.MethodName)) ∈ UW := uw_t1 230 rfl rfl
theorem mw_231 : (Jvm.Cond.methodLink "MixerStation$StationReader" (24 : Nat) ({ cls := "MixerStation$StationReader", name := "readHead", desc := "(LMixerStation$State;)Z" } : Jvm.MethodName)) ∈ UW := uw_t1 231 rfl rfl
theorem mw_233 : (Jvm.Cond.instanceMethod ({ cls := "MixerStation$StationReader", name := "readHead", desc := "(LMixerStation$State;)Z" } : Jvm.MethodName)) ∈ UW := uw_t1 233 rfl rfl
theorem mw_234 : (Jvm.Cond.code ({ cls := "MixerStation$StationReader", name := "readHead", desc := "(LMixerStation$State;)Z" } : Jvm.MethodName) prog_6_method_3_code (2 : Nat) (Option.some Jvm.ClassFile.FieldType.boolean)) ∈ UW := uw_t1 234 rfl rfl
theorem mw_235 : (Jvm.Cond.methodLink "MixerStation$StationReader" (34 : Nat) ({ cls := "MixerStation$StationReader", name := "here", desc := "()I" } : Jvm.MethodName)) ∈ UW := uw_t1 235 rfl rfl
theorem mw_237 : (Jvm.Cond.instanceMethod ({ cls := "MixerStation$StationReader", name := "here", desc := "()I" } : Jvm.MethodName)) ∈ UW := uw_t1 237 rfl rfl
theorem mw_238 : (Jvm.Cond.code ({ cls := "MixerStation$StationReader", name := "here", desc := "()I" } : Jvm.MethodName) prog_6_method_9_code (1 : Nat) (Option.some Jvm.ClassFile.FieldType.int)) ∈ UW := uw_t1 238 rfl rfl
theorem mw_239 : (Jvm.Cond.methodLink "MixerStation$StationReader" (38 : Nat) ({ cls := "MixerStation$StationReader", name := "readSetting", desc := "(LMixerStation$State;II)Z" } : Jvm.MethodName)) ∈ UW := uw_t1 239 rfl rfl
theorem mw_241 : (Jvm.Cond.instanceMethod ({ cls := "MixerStation$StationReader", name := "readSetting", desc := "(LMixerStation$State;II)Z" } : Jvm.MethodName)) ∈ UW := uw_t2 1 rfl rfl
theorem mw_242 : (Jvm.Cond.code ({ cls := "MixerStation$StationReader", name := "readSetting", desc := "(LMixerStation$State;II)Z" } : Jvm.MethodName) prog_6_method_5_code (5 : Nat) (Option.some Jvm.ClassFile.FieldType.boolean)) ∈ UW := uw_t2 2 rfl rfl
theorem mw_244 : (Jvm.Cond.static ({ cls := "MixerStation", name := "lowestSetting", desc := "(I)I" } : Jvm.MethodName)) ∈ UW := uw_t2 4 rfl rfl
theorem mw_245 : (Jvm.Cond.code ({ cls := "MixerStation", name := "lowestSetting", desc := "(I)I" } : Jvm.MethodName) prog_1_method_30_code (1 : Nat) (Option.some Jvm.ClassFile.FieldType.int)) ∈ UW := uw_t2 5 rfl rfl
theorem mw_246 : (Jvm.Cond.fieldLink "MixerStation" (342 : Nat) "MixerStation" "LOWEST_SETTINGS" "[I") ∈ UW := uw_t2 6 rfl rfl
theorem mw_249 : (Jvm.Cond.static ({ cls := "MixerStation", name := "highestSetting", desc := "(I)I" } : Jvm.MethodName)) ∈ UW := uw_t2 9 rfl rfl
theorem mw_250 : (Jvm.Cond.code ({ cls := "MixerStation", name := "highestSetting", desc := "(I)I" } : Jvm.MethodName) prog_1_method_31_code (1 : Nat) (Option.some Jvm.ClassFile.FieldType.int)) ∈ UW := uw_t2 10 rfl rfl
theorem mw_251 : (Jvm.Cond.fieldLink "MixerStation" (345 : Nat) "MixerStation" "HIGHEST_SETTINGS" "[I") ∈ UW := uw_t2 11 rfl rfl
theorem mw_253 : (Jvm.Cond.methodLink "MixerStation$StationReader" (52 : Nat) ({ cls := "MixerStation$StationReader", name := "readNumber", desc := "(III)I" } : Jvm.MethodName)) ∈ UW := uw_t2 13 rfl rfl
theorem mw_255 : (Jvm.Cond.instanceMethod ({ cls := "MixerStation$StationReader", name := "readNumber", desc := "(III)I" } : Jvm.MethodName)) ∈ UW := uw_t2 15 rfl rfl
theorem mw_256 : (Jvm.Cond.code ({ cls := "MixerStation$StationReader", name := "readNumber", desc := "(III)I" } : Jvm.MethodName) prog_6_method_8_code (9 : Nat) (Option.some Jvm.ClassFile.FieldType.int)) ∈ UW := uw_t2 16 rfl rfl
theorem mw_257 : (Jvm.Cond.methodLink "MixerStation$StationReader" (63 : Nat) ({ cls := "MixerStation$State", name := "changeSetting", desc := "(II)V" } : Jvm.MethodName)) ∈ UW := uw_t2 17 rfl rfl
theorem mw_258 : (Jvm.Cond.instanceMethod ({ cls := "MixerStation$State", name := "changeSetting", desc := "(II)V" } : Jvm.MethodName)) ∈ UW := uw_t2 18 rfl rfl
theorem mw_259 : (Jvm.Cond.selects "MixerStation$State" ({ cls := "MixerStation$State", name := "changeSetting", desc := "(II)V" } : Jvm.MethodName) ({ cls := "MixerStation$State", name := "changeSetting", desc := "(II)V" } : Jvm.MethodName)) ∈ UW := uw_t2 19 rfl rfl
theorem mw_260 : (Jvm.Cond.code ({ cls := "MixerStation$State", name := "changeSetting", desc := "(II)V" } : Jvm.MethodName) prog_5_method_8_code (3 : Nat) (Option.none : Option Jvm.ClassFile.FieldType)) ∈ UW := uw_t2 20 rfl rfl
theorem mw_261 : (Jvm.Cond.methodLink "MixerStation$StationReader" (31 : Nat) ({ cls := "MixerStation$StationReader", name := "readPart", desc := "(LMixerStation$State;)Z" } : Jvm.MethodName)) ∈ UW := uw_t2 21 rfl rfl
theorem mw_263 : (Jvm.Cond.instanceMethod ({ cls := "MixerStation$StationReader", name := "readPart", desc := "(LMixerStation$State;)Z" } : Jvm.MethodName)) ∈ UW := uw_t2 23 rfl rfl
theorem mw_264 : (Jvm.Cond.code ({ cls := "MixerStation$StationReader", name := "readPart", desc := "(LMixerStation$State;)Z" } : Jvm.MethodName) prog_6_method_4_code (4 : Nat) (Option.some Jvm.ClassFile.FieldType.boolean)) ∈ UW := uw_t2 24 rfl rfl
theorem mw_265 : (Jvm.Cond.methodLink "MixerStation$StationReader" (42 : Nat) ({ cls := "MixerStation$State", name := "isFull", desc := "()Z" } : Jvm.MethodName)) ∈ UW := uw_t2 25 rfl rfl
theorem mw_266 : (Jvm.Cond.instanceMethod ({ cls := "MixerStation$State", name := "isFull", desc := "()Z" } : Jvm.MethodName)) ∈ UW := uw_t2 26 rfl rfl
theorem mw_267 : (Jvm.Cond.selects "MixerStation$State" ({ cls := "MixerStation$State", name := "isFull", desc := "()Z" } : Jvm.MethodName) ({ cls := "MixerStation$State", name := "isFull", desc := "()Z" } : Jvm.MethodName)) ∈ UW := uw_t2 27 rfl rfl
theorem mw_268 : (Jvm.Cond.code ({ cls := "MixerStation$State", name := "isFull", desc := "()Z" } : Jvm.MethodName) prog_5_method_6_code (1 : Nat) (Option.some Jvm.ClassFile.FieldType.boolean)) ∈ UW := uw_t2 28 rfl rfl
theorem mw_269 : (Jvm.Cond.methodLink "MixerStation$StationReader" (46 : Nat) ({ cls := "MixerStation$StationReader", name := "readRoom", desc := "(LMixerStation$State;)Z" } : Jvm.MethodName)) ∈ UW := uw_t2 29 rfl rfl
theorem mw_271 : (Jvm.Cond.instanceMethod ({ cls := "MixerStation$StationReader", name := "readRoom", desc := "(LMixerStation$State;)Z" } : Jvm.MethodName)) ∈ UW := uw_t2 31 rfl rfl
theorem mw_272 : (Jvm.Cond.code ({ cls := "MixerStation$StationReader", name := "readRoom", desc := "(LMixerStation$State;)Z" } : Jvm.MethodName) prog_6_method_6_code (6 : Nat) (Option.some Jvm.ClassFile.FieldType.boolean)) ∈ UW := uw_t2 32 rfl rfl
theorem mw_273 : (Jvm.Cond.methodLink "MixerStation$StationReader" (67 : Nat) ({ cls := "MixerStation$State", name := "buildRoom", desc := "(IIII)V" } : Jvm.MethodName)) ∈ UW := uw_t2 33 rfl rfl
theorem mw_274 : (Jvm.Cond.instanceMethod ({ cls := "MixerStation$State", name := "buildRoom", desc := "(IIII)V" } : Jvm.MethodName)) ∈ UW := uw_t2 34 rfl rfl
theorem mw_275 : (Jvm.Cond.selects "MixerStation$State" ({ cls := "MixerStation$State", name := "buildRoom", desc := "(IIII)V" } : Jvm.MethodName) ({ cls := "MixerStation$State", name := "buildRoom", desc := "(IIII)V" } : Jvm.MethodName)) ∈ UW := uw_t2 35 rfl rfl
theorem mw_276 : (Jvm.Cond.code ({ cls := "MixerStation$State", name := "buildRoom", desc := "(IIII)V" } : Jvm.MethodName) prog_5_method_10_code (7 : Nat) (Option.none : Option Jvm.ClassFile.FieldType)) ∈ UW := uw_t2 36 rfl rfl
theorem mw_277 : (Jvm.Cond.methodLink "MixerStation$State" (93 : Nat) ({ cls := "MixerStation$Room", name := "begin", desc := "(III)V" } : Jvm.MethodName)) ∈ UW := uw_t2 37 rfl rfl
theorem mw_278 : (Jvm.Cond.instanceMethod ({ cls := "MixerStation$Room", name := "begin", desc := "(III)V" } : Jvm.MethodName)) ∈ UW := uw_t2 38 rfl rfl
theorem mw_279 : (Jvm.Cond.selects "MixerStation$Room" ({ cls := "MixerStation$Room", name := "begin", desc := "(III)V" } : Jvm.MethodName) ({ cls := "MixerStation$Room", name := "begin", desc := "(III)V" } : Jvm.MethodName)) ∈ UW := uw_t2 39 rfl rfl
theorem mw_280 : (Jvm.Cond.code ({ cls := "MixerStation$Room", name := "begin", desc := "(III)V" } : Jvm.MethodName) prog_4_method_3_code (4 : Nat) (Option.none : Option Jvm.ClassFile.FieldType)) ∈ UW := uw_t2 40 rfl rfl
theorem mw_281 : (Jvm.Cond.methodLink "MixerStation$State" (97 : Nat) ({ cls := "MixerStation$State", name := "move", desc := "(III)V" } : Jvm.MethodName)) ∈ UW := uw_t2 41 rfl rfl
theorem mw_283 : (Jvm.Cond.instanceMethod ({ cls := "MixerStation$State", name := "move", desc := "(III)V" } : Jvm.MethodName)) ∈ UW := uw_t2 43 rfl rfl
theorem mw_284 : (Jvm.Cond.code ({ cls := "MixerStation$State", name := "move", desc := "(III)V" } : Jvm.MethodName) prog_5_method_33_code (4 : Nat) (Option.none : Option Jvm.ClassFile.FieldType)) ∈ UW := uw_t2 44 rfl rfl
theorem mw_285 : (Jvm.Cond.methodLink "MixerStation$State" (179 : Nat) ({ cls := "MixerStation$State", name := "addHeat", desc := "(II)V" } : Jvm.MethodName)) ∈ UW := uw_t2 45 rfl rfl
theorem mw_287 : (Jvm.Cond.instanceMethod ({ cls := "MixerStation$State", name := "addHeat", desc := "(II)V" } : Jvm.MethodName)) ∈ UW := uw_t2 47 rfl rfl
theorem mw_288 : (Jvm.Cond.code ({ cls := "MixerStation$State", name := "addHeat", desc := "(II)V" } : Jvm.MethodName) prog_5_method_34_code (3 : Nat) (Option.none : Option Jvm.ClassFile.FieldType)) ∈ UW := uw_t2 48 rfl rfl
theorem mw_289 : (Jvm.Cond.methodLink "MixerStation$State" (183 : Nat) ({ cls := "MixerStation$Ledger", name := "note", desc := "(III)V" } : Jvm.MethodName)) ∈ UW := uw_t2 49 rfl rfl
theorem mw_290 : (Jvm.Cond.instanceMethod ({ cls := "MixerStation$Ledger", name := "note", desc := "(III)V" } : Jvm.MethodName)) ∈ UW := uw_t2 50 rfl rfl
theorem mw_291 : (Jvm.Cond.selects "MixerStation$Ledger" ({ cls := "MixerStation$Ledger", name := "note", desc := "(III)V" } : Jvm.MethodName) ({ cls := "MixerStation$Ledger", name := "note", desc := "(III)V" } : Jvm.MethodName)) ∈ UW := uw_t2 51 rfl rfl
theorem mw_292 : (Jvm.Cond.code ({ cls := "MixerStation$Ledger", name := "note", desc := "(III)V" } : Jvm.MethodName) prog_3_method_4_code (5 : Nat) (Option.none : Option Jvm.ClassFile.FieldType)) ∈ UW := uw_t2 52 rfl rfl
theorem mw_293 : (Jvm.Cond.methodLink "MixerStation$StationReader" (49 : Nat) ({ cls := "MixerStation$StationReader", name := "readOutside", desc := "(LMixerStation$State;)Z" } : Jvm.MethodName)) ∈ UW := uw_t2 53 rfl rfl
theorem mw_295 : (Jvm.Cond.instanceMethod ({ cls := "MixerStation$StationReader", name := "readOutside", desc := "(LMixerStation$State;)Z" } : Jvm.MethodName)) ∈ UW := uw_t2 55 rfl rfl
theorem mw_296 : (Jvm.Cond.code ({ cls := "MixerStation$StationReader", name := "readOutside", desc := "(LMixerStation$State;)Z" } : Jvm.MethodName) prog_6_method_7_code (4 : Nat) (Option.some Jvm.ClassFile.FieldType.boolean)) ∈ UW := uw_t2 56 rfl rfl
theorem mw_297 : (Jvm.Cond.constant "MixerStation" (63 : Nat) (-99999 : Int32)) ∈ UW := uw_t2 57 rfl rfl
theorem mw_298 : (Jvm.Cond.methodLink "MixerStationLaw" (169 : Nat) ({ cls := "MixerStation", name := "whyOff", desc := "()I" } : Jvm.MethodName)) ∈ UW := uw_t2 58 rfl rfl
theorem mw_299 : (Jvm.Cond.instanceMethod ({ cls := "MixerStation", name := "whyOff", desc := "()I" } : Jvm.MethodName)) ∈ UW := uw_t2 59 rfl rfl
theorem mw_300 : (Jvm.Cond.selects "MixerStation" ({ cls := "MixerStation", name := "whyOff", desc := "()I" } : Jvm.MethodName) ({ cls := "MixerStation", name := "whyOff", desc := "()I" } : Jvm.MethodName)) ∈ UW := uw_t2 60 rfl rfl
theorem mw_301 : (Jvm.Cond.code ({ cls := "MixerStation", name := "whyOff", desc := "()I" } : Jvm.MethodName) prog_1_method_21_code (1 : Nat) (Option.some Jvm.ClassFile.FieldType.int)) ∈ UW := uw_t2 61 rfl rfl
theorem mw_302 : (Jvm.Cond.methodLink "MixerStation" (69 : Nat) ({ cls := "MixerStation$State", name := "copyFrom", desc := "(LMixerStation$State;)V" } : Jvm.MethodName)) ∈ UW := uw_t2 62 rfl rfl
theorem mw_303 : (Jvm.Cond.instanceMethod ({ cls := "MixerStation$State", name := "copyFrom", desc := "(LMixerStation$State;)V" } : Jvm.MethodName)) ∈ UW := uw_t2 63 rfl rfl
theorem mw_304 : (Jvm.Cond.selects "MixerStation$State" ({ cls := "MixerStation$State", name := "copyFrom", desc := "(LMixerStation$State;)V" } : Jvm.MethodName) ({ cls := "MixerStation$State", name := "copyFrom", desc := "(LMixerStation$State;)V" } : Jvm.MethodName)) ∈ UW := uw_t2 64 rfl rfl
theorem mw_305 : (Jvm.Cond.code ({ cls := "MixerStation$State", name := "copyFrom", desc := "(LMixerStation$State;)V" } : Jvm.MethodName) prog_5_method_3_code (3 : Nat) (Option.none : Option Jvm.ClassFile.FieldType)) ∈ UW := uw_t2 65 rfl rfl
theorem mw_306 : (Jvm.Cond.methodLink "MixerStation$State" (79 : Nat) ({ cls := "MixerStation$Ledger", name := "copyFrom", desc := "(LMixerStation$Ledger;)V" } : Jvm.MethodName)) ∈ UW := uw_t2 66 rfl rfl
theorem mw_307 : (Jvm.Cond.instanceMethod ({ cls := "MixerStation$Ledger", name := "copyFrom", desc := "(LMixerStation$Ledger;)V" } : Jvm.MethodName)) ∈ UW := uw_t2 67 rfl rfl
theorem mw_308 : (Jvm.Cond.selects "MixerStation$Ledger" ({ cls := "MixerStation$Ledger", name := "copyFrom", desc := "(LMixerStation$Ledger;)V" } : Jvm.MethodName) ({ cls := "MixerStation$Ledger", name := "copyFrom", desc := "(LMixerStation$Ledger;)V" } : Jvm.MethodName)) ∈ UW := uw_t2 68 rfl rfl
theorem mw_309 : (Jvm.Cond.code ({ cls := "MixerStation$Ledger", name := "copyFrom", desc := "(LMixerStation$Ledger;)V" } : Jvm.MethodName) prog_3_method_2_code (2 : Nat) (Option.none : Option Jvm.ClassFile.FieldType)) ∈ UW := uw_t2 69 rfl rfl
theorem mw_310 : (Jvm.Cond.methodLink "MixerStation$Ledger" (21 : Nat) ({ cls := "java/lang/System", name := "arraycopy", desc := "(Ljava/lang/Object;ILjava/lang/Object;II)V" } : Jvm.MethodName)) ∈ UW := uw_t2 70 rfl rfl
theorem mw_311 : (Jvm.Cond.methodLink "MixerStation$State" (83 : Nat) ({ cls := "MixerStation$Room", name := "copyFrom", desc := "(LMixerStation$Room;)V" } : Jvm.MethodName)) ∈ UW := uw_t2 71 rfl rfl
theorem mw_312 : (Jvm.Cond.instanceMethod ({ cls := "MixerStation$Room", name := "copyFrom", desc := "(LMixerStation$Room;)V" } : Jvm.MethodName)) ∈ UW := uw_t2 72 rfl rfl
theorem mw_313 : (Jvm.Cond.selects "MixerStation$Room" ({ cls := "MixerStation$Room", name := "copyFrom", desc := "(LMixerStation$Room;)V" } : Jvm.MethodName) ({ cls := "MixerStation$Room", name := "copyFrom", desc := "(LMixerStation$Room;)V" } : Jvm.MethodName)) ∈ UW := uw_t2 73 rfl rfl
theorem mw_314 : (Jvm.Cond.code ({ cls := "MixerStation$Room", name := "copyFrom", desc := "(LMixerStation$Room;)V" } : Jvm.MethodName) prog_4_method_2_code (2 : Nat) (Option.none : Option Jvm.ClassFile.FieldType)) ∈ UW := uw_t2 74 rfl rfl
theorem mw_315 : (Jvm.Cond.methodLink "MixerStation" (281 : Nat) ({ cls := "MixerStation$State", name := "turnSeason", desc := "()V" } : Jvm.MethodName)) ∈ UW := uw_t2 75 rfl rfl
theorem mw_316 : (Jvm.Cond.instanceMethod ({ cls := "MixerStation$State", name := "turnSeason", desc := "()V" } : Jvm.MethodName)) ∈ UW := uw_t2 76 rfl rfl
theorem mw_317 : (Jvm.Cond.selects "MixerStation$State" ({ cls := "MixerStation$State", name := "turnSeason", desc := "()V" } : Jvm.MethodName) ({ cls := "MixerStation$State", name := "turnSeason", desc := "()V" } : Jvm.MethodName)) ∈ UW := uw_t2 77 rfl rfl
theorem mw_318 : (Jvm.Cond.code ({ cls := "MixerStation$State", name := "turnSeason", desc := "()V" } : Jvm.MethodName) prog_5_method_22_code (2 : Nat) (Option.none : Option Jvm.ClassFile.FieldType)) ∈ UW := uw_t2 78 rfl rfl
theorem mw_319 : (Jvm.Cond.methodLink "MixerStation$State" (122 : Nat) ({ cls := "MixerStation$State", name := "settingOf", desc := "(I)I" } : Jvm.MethodName)) ∈ UW := uw_t2 79 rfl rfl
theorem mw_320 : (Jvm.Cond.instanceMethod ({ cls := "MixerStation$State", name := "settingOf", desc := "(I)I" } : Jvm.MethodName)) ∈ UW := uw_t2 80 rfl rfl
theorem mw_321 : (Jvm.Cond.selects "MixerStation$State" ({ cls := "MixerStation$State", name := "settingOf", desc := "(I)I" } : Jvm.MethodName) ({ cls := "MixerStation$State", name := "settingOf", desc := "(I)I" } : Jvm.MethodName)) ∈ UW := uw_t2 81 rfl rfl
theorem mw_322 : (Jvm.Cond.code ({ cls := "MixerStation$State", name := "settingOf", desc := "(I)I" } : Jvm.MethodName) prog_5_method_7_code (2 : Nat) (Option.some Jvm.ClassFile.FieldType.int)) ∈ UW := uw_t2 82 rfl rfl
theorem mw_323 : (Jvm.Cond.methodLink "MixerStation" (284 : Nat) ({ cls := "MixerStation$State", name := "runBoiler", desc := "()V" } : Jvm.MethodName)) ∈ UW := uw_t2 83 rfl rfl
theorem mw_324 : (Jvm.Cond.instanceMethod ({ cls := "MixerStation$State", name := "runBoiler", desc := "()V" } : Jvm.MethodName)) ∈ UW := uw_t2 84 rfl rfl
theorem mw_325 : (Jvm.Cond.selects "MixerStation$State" ({ cls := "MixerStation$State", name := "runBoiler", desc := "()V" } : Jvm.MethodName) ({ cls := "MixerStation$State", name := "runBoiler", desc := "()V" } : Jvm.MethodName)) ∈ UW := uw_t2 85 rfl rfl
theorem mw_326 : (Jvm.Cond.code ({ cls := "MixerStation$State", name := "runBoiler", desc := "()V" } : Jvm.MethodName) prog_5_method_23_code (1 : Nat) (Option.none : Option Jvm.ClassFile.FieldType)) ∈ UW := uw_t2 86 rfl rfl
theorem mw_327 : (Jvm.Cond.methodLink "MixerStation$State" (149 : Nat) ({ cls := "MixerStation$State", name := "mustStop", desc := "()Z" } : Jvm.MethodName)) ∈ UW := uw_t2 87 rfl rfl
theorem mw_329 : (Jvm.Cond.instanceMethod ({ cls := "MixerStation$State", name := "mustStop", desc := "()Z" } : Jvm.MethodName)) ∈ UW := uw_t2 89 rfl rfl
theorem mw_330 : (Jvm.Cond.code ({ cls := "MixerStation$State", name := "mustStop", desc := "()Z" } : Jvm.MethodName) prog_5_method_24_code (2 : Nat) (Option.some Jvm.ClassFile.FieldType.boolean)) ∈ UW := uw_t2 90 rfl rfl
theorem mw_331 : (Jvm.Cond.methodLink "MixerStation$State" (112 : Nat) ({ cls := "MixerStation$State", name := "degrees", desc := "(I)I" } : Jvm.MethodName)) ∈ UW := uw_t2 91 rfl rfl
theorem mw_332 : (Jvm.Cond.instanceMethod ({ cls := "MixerStation$State", name := "degrees", desc := "(I)I" } : Jvm.MethodName)) ∈ UW := uw_t2 92 rfl rfl
theorem mw_333 : (Jvm.Cond.selects "MixerStation$State" ({ cls := "MixerStation$State", name := "degrees", desc := "(I)I" } : Jvm.MethodName) ({ cls := "MixerStation$State", name := "degrees", desc := "(I)I" } : Jvm.MethodName)) ∈ UW := uw_t2 93 rfl rfl
theorem mw_334 : (Jvm.Cond.code ({ cls := "MixerStation$State", name := "degrees", desc := "(I)I" } : Jvm.MethodName) prog_5_method_13_code (2 : Nat) (Option.some Jvm.ClassFile.FieldType.int)) ∈ UW := uw_t2 94 rfl rfl
theorem mw_335 : (Jvm.Cond.methodLink "MixerStation$State" (100 : Nat) ({ cls := "java/lang/Math", name := "floorDiv", desc := "(II)I" } : Jvm.MethodName)) ∈ UW := uw_t2 95 rfl rfl
theorem mw_336 : (Jvm.Cond.static ({ cls := "java/lang/Math", name := "floorDiv", desc := "(II)I" } : Jvm.MethodName)) ∈ UW := uw_t2 96 rfl rfl
theorem mw_337 : (Jvm.Cond.code ({ cls := "java/lang/Math", name := "floorDiv", desc := "(II)I" } : Jvm.MethodName) prog_13_method_47_code (3 : Nat) (Option.some Jvm.ClassFile.FieldType.int)) ∈ UW := uw_t2 97 rfl rfl
theorem mw_338 : (Jvm.Cond.methodLink "MixerStation$State" (153 : Nat) ({ cls := "MixerStation$State", name := "mayStart", desc := "()Z" } : Jvm.MethodName)) ∈ UW := uw_t2 98 rfl rfl
theorem mw_340 : (Jvm.Cond.instanceMethod ({ cls := "MixerStation$State", name := "mayStart", desc := "()Z" } : Jvm.MethodName)) ∈ UW := uw_t2 100 rfl rfl
theorem mw_341 : (Jvm.Cond.code ({ cls := "MixerStation$State", name := "mayStart", desc := "()Z" } : Jvm.MethodName) prog_5_method_25_code (1 : Nat) (Option.some Jvm.ClassFile.FieldType.boolean)) ∈ UW := uw_t2 101 rfl rfl
theorem mw_342 : (Jvm.Cond.methodLink "MixerStation" (143 : Nat) ({ cls := "MixerStation$State", name := "degrees", desc := "(I)I" } : Jvm.MethodName)) ∈ UW := uw_t2 102 rfl rfl
theorem mw_343 : (Jvm.Cond.methodLink "MixerStation" (127 : Nat) ({ cls := "MixerStation$State", name := "settingOf", desc := "(I)I" } : Jvm.MethodName)) ∈ UW := uw_t2 103 rfl rfl
theorem mw_344 : (Jvm.Cond.methodLink "MixerStationLaw" (173 : Nat) ({ cls := "MixerStation", name := "whyShare", desc := "()I" } : Jvm.MethodName)) ∈ UW := uw_t2 104 rfl rfl
theorem mw_345 : (Jvm.Cond.instanceMethod ({ cls := "MixerStation", name := "whyShare", desc := "()I" } : Jvm.MethodName)) ∈ UW := uw_t2 105 rfl rfl
theorem mw_346 : (Jvm.Cond.selects "MixerStation" ({ cls := "MixerStation", name := "whyShare", desc := "()I" } : Jvm.MethodName) ({ cls := "MixerStation", name := "whyShare", desc := "()I" } : Jvm.MethodName)) ∈ UW := uw_t2 106 rfl rfl
theorem mw_347 : (Jvm.Cond.code ({ cls := "MixerStation", name := "whyShare", desc := "()I" } : Jvm.MethodName) prog_1_method_22_code (1 : Nat) (Option.some Jvm.ClassFile.FieldType.int)) ∈ UW := uw_t2 107 rfl rfl
theorem mw_348 : (Jvm.Cond.methodLink "MixerStation" (287 : Nat) ({ cls := "MixerStation$State", name := "moveValve", desc := "()V" } : Jvm.MethodName)) ∈ UW := uw_t2 108 rfl rfl
theorem mw_349 : (Jvm.Cond.instanceMethod ({ cls := "MixerStation$State", name := "moveValve", desc := "()V" } : Jvm.MethodName)) ∈ UW := uw_t2 109 rfl rfl
theorem mw_350 : (Jvm.Cond.selects "MixerStation$State" ({ cls := "MixerStation$State", name := "moveValve", desc := "()V" } : Jvm.MethodName) ({ cls := "MixerStation$State", name := "moveValve", desc := "()V" } : Jvm.MethodName)) ∈ UW := uw_t2 110 rfl rfl
theorem mw_351 : (Jvm.Cond.code ({ cls := "MixerStation$State", name := "moveValve", desc := "()V" } : Jvm.MethodName) prog_5_method_26_code (3 : Nat) (Option.none : Option Jvm.ClassFile.FieldType)) ∈ UW := uw_t2 111 rfl rfl
theorem mw_352 : (Jvm.Cond.methodLink "MixerStation$State" (156 : Nat) ({ cls := "MixerStation$State", name := "freeTarget", desc := "()I" } : Jvm.MethodName)) ∈ UW := uw_t2 112 rfl rfl
theorem mw_353 : (Jvm.Cond.instanceMethod ({ cls := "MixerStation$State", name := "freeTarget", desc := "()I" } : Jvm.MethodName)) ∈ UW := uw_t2 113 rfl rfl
theorem mw_354 : (Jvm.Cond.selects "MixerStation$State" ({ cls := "MixerStation$State", name := "freeTarget", desc := "()I" } : Jvm.MethodName) ({ cls := "MixerStation$State", name := "freeTarget", desc := "()I" } : Jvm.MethodName)) ∈ UW := uw_t2 114 rfl rfl
theorem mw_355 : (Jvm.Cond.code ({ cls := "MixerStation$State", name := "freeTarget", desc := "()I" } : Jvm.MethodName) prog_5_method_28_code (2 : Nat) (Option.some Jvm.ClassFile.FieldType.int)) ∈ UW := uw_t2 115 rfl rfl
theorem mw_356 : (Jvm.Cond.methodLink "MixerStation$State" (166 : Nat) ({ cls := "MixerStation$State", name := "loopShouldHave", desc := "()I" } : Jvm.MethodName)) ∈ UW := uw_t2 116 rfl rfl
theorem mw_357 : (Jvm.Cond.instanceMethod ({ cls := "MixerStation$State", name := "loopShouldHave", desc := "()I" } : Jvm.MethodName)) ∈ UW := uw_t2 117 rfl rfl
theorem mw_358 : (Jvm.Cond.selects "MixerStation$State" ({ cls := "MixerStation$State", name := "loopShouldHave", desc := "()I" } : Jvm.MethodName) ({ cls := "MixerStation$State", name := "loopShouldHave", desc := "()I" } : Jvm.MethodName)) ∈ UW := uw_t2 118 rfl rfl
theorem mw_359 : (Jvm.Cond.code ({ cls := "MixerStation$State", name := "loopShouldHave", desc := "()I" } : Jvm.MethodName) prog_5_method_20_code (1 : Nat) (Option.some Jvm.ClassFile.FieldType.int)) ∈ UW := uw_t2 119 rfl rfl
theorem mw_360 : (Jvm.Cond.methodLink "MixerStation$State" (125 : Nat) ({ cls := "java/lang/Math", name := "min", desc := "(II)I" } : Jvm.MethodName)) ∈ UW := uw_t2 120 rfl rfl
theorem mw_361 : (Jvm.Cond.static ({ cls := "java/lang/Math", name := "min", desc := "(II)I" } : Jvm.MethodName)) ∈ UW := uw_t2 121 rfl rfl
theorem mw_362 : (Jvm.Cond.code ({ cls := "java/lang/Math", name := "min", desc := "(II)I" } : Jvm.MethodName) prog_13_method_69_code (2 : Nat) (Option.some Jvm.ClassFile.FieldType.int)) ∈ UW := uw_t2 122 rfl rfl
theorem mw_363 : (Jvm.Cond.methodLink "MixerStation$State" (163 : Nat) ({ cls := "java/lang/Math", name := "max", desc := "(II)I" } : Jvm.MethodName)) ∈ UW := uw_t2 123 rfl rfl
theorem mw_364 : (Jvm.Cond.static ({ cls := "java/lang/Math", name := "max", desc := "(II)I" } : Jvm.MethodName)) ∈ UW := uw_t2 124 rfl rfl
theorem mw_365 : (Jvm.Cond.code ({ cls := "java/lang/Math", name := "max", desc := "(II)I" } : Jvm.MethodName) prog_13_method_65_code (2 : Nat) (Option.some Jvm.ClassFile.FieldType.int)) ∈ UW := uw_t2 125 rfl rfl
theorem mw_366 : (Jvm.Cond.methodLink "MixerStation$State" (160 : Nat) ({ cls := "MixerStation$State", name := "isPinched", desc := "()Z" } : Jvm.MethodName)) ∈ UW := uw_t2 126 rfl rfl
theorem mw_367 : (Jvm.Cond.instanceMethod ({ cls := "MixerStation$State", name := "isPinched", desc := "()Z" } : Jvm.MethodName)) ∈ UW := uw_t2 127 rfl rfl
theorem mw_368 : (Jvm.Cond.selects "MixerStation$State" ({ cls := "MixerStation$State", name := "isPinched", desc := "()Z" } : Jvm.MethodName) ({ cls := "MixerStation$State", name := "isPinched", desc := "()Z" } : Jvm.MethodName)) ∈ UW := uw_t2 128 rfl rfl
theorem mw_369 : (Jvm.Cond.code ({ cls := "MixerStation$State", name := "isPinched", desc := "()Z" } : Jvm.MethodName) prog_5_method_27_code (1 : Nat) (Option.some Jvm.ClassFile.FieldType.boolean)) ∈ UW := uw_t2 129 rfl rfl
theorem mw_370 : (Jvm.Cond.methodLink "MixerStation" (290 : Nat) ({ cls := "MixerStation$State", name := "freeTarget", desc := "()I" } : Jvm.MethodName)) ∈ UW := uw_t2 130 rfl rfl
theorem mw_371 : (Jvm.Cond.methodLink "MixerStation" (293 : Nat) ({ cls := "MixerStation$State", name := "isPinched", desc := "()Z" } : Jvm.MethodName)) ∈ UW := uw_t2 131 rfl rfl
theorem mw_372 : (Jvm.Cond.methodLink "MixerStationLaw" (99 : Nat) ({ cls := "MixerStationLaw", name := "append", desc := "(LMixerStation;I[J)I" } : Jvm.MethodName)) ∈ UW := uw_t2 132 rfl rfl
theorem mw_373 : (Jvm.Cond.static ({ cls := "MixerStationLaw", name := "append", desc := "(LMixerStation;I[J)I" } : Jvm.MethodName)) ∈ UW := uw_t2 133 rfl rfl
theorem mw_374 : (Jvm.Cond.codeWith ({ cls := "MixerStationLaw", name := "append", desc := "(LMixerStation;I[J)I" } : Jvm.MethodName) method_3_code (4 : Nat) (Option.some Jvm.ClassFile.FieldType.int) [((0 : Nat), (9 : Nat), (12 : Nat), (13 : Nat)), ((0 : Nat), (9 : Nat), (15 : Nat), (15 : Nat))]) ∈ UW := uw_t2 134 rfl rfl
theorem mw_375 : (Jvm.Cond.classLink "MixerStationLaw" (13 : Nat) "java/lang/IllegalArgumentException") ∈ UW := uw_t2 135 rfl rfl
theorem mw_376 : (Jvm.Cond.classLink "MixerStationLaw" (15 : Nat) "java/lang/IllegalStateException") ∈ UW := uw_t2 136 rfl rfl
theorem mw_377 : (Jvm.Cond.methodLink "MixerStationLaw" (7 : Nat) ({ cls := "MixerStation", name := "append", desc := "(I)I" } : Jvm.MethodName)) ∈ UW := uw_t2 137 rfl rfl
theorem mw_378 : (Jvm.Cond.instanceMethod ({ cls := "MixerStation", name := "append", desc := "(I)I" } : Jvm.MethodName)) ∈ UW := uw_t2 138 rfl rfl
theorem mw_379 : (Jvm.Cond.selects "MixerStation" ({ cls := "MixerStation", name := "append", desc := "(I)I" } : Jvm.MethodName) ({ cls := "MixerStation", name := "append", desc := "(I)I" } : Jvm.MethodName)) ∈ UW := uw_t2 139 rfl rfl
theorem mw_380 : (Jvm.Cond.code ({ cls := "MixerStation", name := "append", desc := "(I)I" } : Jvm.MethodName) prog_1_method_2_code (2 : Nat) (Option.some Jvm.ClassFile.FieldType.int)) ∈ UW := uw_t2 140 rfl rfl
theorem mw_381 : (Jvm.Cond.classLink "MixerStation" (38 : Nat) "java/lang/IllegalArgumentException") ∈ UW := uw_t2 141 rfl rfl
theorem mw_382 : (Jvm.Cond.instantiable "java/lang/IllegalArgumentException" (6 : Nat)) ∈ UW := uw_t2 142 rfl rfl
theorem mw_390 : (Jvm.Cond.selects "java/lang/IllegalArgumentException" ({ cls := "java/lang/Throwable", name := "fillInStackTrace", desc := "(I)Ljava/lang/Throwable;" } : Jvm.MethodName) ({ cls := "java/lang/Throwable", name := "fillInStackTrace", desc := "(I)Ljava/lang/Throwable;" } : Jvm.MethodName)) ∈ UW := uw_t2 150 rfl rfl
theorem mw_391 : (Jvm.Cond.selects "java/lang/IllegalArgumentException" ({ cls := "java/lang/Throwable", name := "fillInStackTrace", desc := "()Ljava/lang/Throwable;" } : Jvm.MethodName) ({ cls := "java/lang/Throwable", name := "fillInStackTrace", desc := "()Ljava/lang/Throwable;" } : Jvm.MethodName)) ∈ UW := uw_t2 151 rfl rfl
theorem mw_392 : (Jvm.Cond.lays "java/lang/IllegalArgumentException" "java/lang/Throwable" "cause" "Ljava/lang/Throwable;") ∈ UW := uw_t2 152 rfl rfl
theorem mw_393 : (Jvm.Cond.lays "java/lang/Throwable" "java/lang/Throwable" "cause" "Ljava/lang/Throwable;") ∈ UW := uw_t2 153 rfl rfl
theorem mw_394 : (Jvm.Cond.lays "java/lang/IllegalArgumentException" "java/lang/Throwable" "stackTrace" "[Ljava/lang/StackTraceElement;") ∈ UW := uw_t2 154 rfl rfl
theorem mw_395 : (Jvm.Cond.lays "java/lang/Throwable" "java/lang/Throwable" "stackTrace" "[Ljava/lang/StackTraceElement;") ∈ UW := uw_t2 155 rfl rfl
theorem mw_396 : (Jvm.Cond.lays "java/lang/IllegalArgumentException" "java/lang/Throwable" "suppressedExceptions" "Ljava/util/List;") ∈ UW := uw_t2 156 rfl rfl
theorem mw_397 : (Jvm.Cond.lays "java/lang/Throwable" "java/lang/Throwable" "suppressedExceptions" "Ljava/util/List;") ∈ UW := uw_t2 157 rfl rfl
theorem mw_398 : (Jvm.Cond.lays "java/lang/IllegalArgumentException" "java/lang/Throwable" "detailMessage" "Ljava/lang/String;") ∈ UW := uw_t2 158 rfl rfl
theorem mw_399 : (Jvm.Cond.lays "java/lang/Throwable" "java/lang/Throwable" "detailMessage" "Ljava/lang/String;") ∈ UW := uw_t2 159 rfl rfl
theorem mw_400 : (Jvm.Cond.lays "java/lang/IllegalArgumentException" "java/lang/Throwable" "backtrace" "Ljava/lang/Object;") ∈ UW := uw_t2 160 rfl rfl
theorem mw_401 : (Jvm.Cond.lays "java/lang/Throwable" "java/lang/Throwable" "backtrace" "Ljava/lang/Object;") ∈ UW := uw_t2 161 rfl rfl
theorem mw_402 : (Jvm.Cond.fieldLink "java/lang/Throwable" (198 : Nat) "java/lang/Throwable" "backtrace" "Ljava/lang/Object;") ∈ UW := uw_t2 162 rfl rfl
theorem mw_404 : (Jvm.Cond.instanceMethod ({ cls := "java/lang/Throwable", name := "<init>", desc := "()V" } : Jvm.MethodName)) ∈ UW := uw_t2 164 rfl rfl
theorem mw_405 : (Jvm.Cond.code ({ cls := "java/lang/Throwable", name := "<init>", desc := "()V" } : Jvm.MethodName) prog_17_method_1_code (1 : Nat) (Option.none : Option Jvm.ClassFile.FieldType)) ∈ UW := uw_t2 165 rfl rfl
theorem mw_406 : (Jvm.Cond.methodLink "java/lang/Throwable" (1 : Nat) ({ cls := "java/lang/Object", name := "<init>", desc := "()V" } : Jvm.MethodName)) ∈ UW := uw_t2 166 rfl rfl
theorem mw_407 : (Jvm.Cond.fieldLink "java/lang/Throwable" (13 : Nat) "java/lang/Throwable" "UNASSIGNED_STACK" "[Ljava/lang/StackTraceElement;") ∈ UW := uw_t2 167 rfl rfl
theorem mw_409 : (Jvm.Cond.fieldLink "java/lang/Throwable" (20 : Nat) "java/lang/Throwable" "SUPPRESSED_SENTINEL" "Ljava/util/List;") ∈ UW := uw_t2 169 rfl rfl
theorem mw_411 : (Jvm.Cond.methodLink "java/lang/Throwable" (27 : Nat) ({ cls := "java/lang/Throwable", name := "fillInStackTrace", desc := "()Ljava/lang/Throwable;" } : Jvm.MethodName)) ∈ UW := uw_t2 171 rfl rfl
theorem mw_412 : (Jvm.Cond.instanceMethod ({ cls := "java/lang/Throwable", name := "fillInStackTrace", desc := "()Ljava/lang/Throwable;" } : Jvm.MethodName)) ∈ UW := uw_t2 172 rfl rfl
theorem mw_414 : (Jvm.Cond.selects "java/lang/IllegalStateException" ({ cls := "java/lang/Throwable", name := "fillInStackTrace", desc := "()Ljava/lang/Throwable;" } : Jvm.MethodName) ({ cls := "java/lang/Throwable", name := "fillInStackTrace", desc := "()Ljava/lang/Throwable;" } : Jvm.MethodName)) ∈ UW := uw_t2 174 rfl rfl
theorem mw_415 : (Jvm.Cond.selects "java/lang/IndexOutOfBoundsException" ({ cls := "java/lang/Throwable", name := "fillInStackTrace", desc := "()Ljava/lang/Throwable;" } : Jvm.MethodName) ({ cls := "java/lang/Throwable", name := "fillInStackTrace", desc := "()Ljava/lang/Throwable;" } : Jvm.MethodName)) ∈ UW := uw_t2 175 rfl rfl
theorem mw_417 : (Jvm.Cond.methodLink "java/lang/Throwable" (202 : Nat) ({ cls := "java/lang/Throwable", name := "fillInStackTrace", desc := "(I)Ljava/lang/Throwable;" } : Jvm.MethodName)) ∈ UW := uw_t2 177 rfl rfl
theorem mw_419 : (Jvm.Cond.instanceMethod ({ cls := "java/lang/Throwable", name := "fillInStackTrace", desc := "(I)Ljava/lang/Throwable;" } : Jvm.MethodName)) ∈ UW := uw_t2 179 rfl rfl
theorem mw_420 : (Jvm.Cond.instantiable "java/lang/Throwable" (6 : Nat)) ∈ UW := uw_t2 180 rfl rfl
theorem mw_421 : (Jvm.Cond.native ({ cls := "java/lang/Throwable", name := "fillInStackTrace", desc := "(I)Ljava/lang/Throwable;" } : Jvm.MethodName)) ∈ UW := uw_t2 181 rfl rfl
theorem mw_423 : (Jvm.Cond.methodLink "MixerStation" (42 : Nat) ({ cls := "java/lang/IllegalArgumentException", name := "<init>", desc := "(Ljava/lang/String;)V" } : Jvm.MethodName)) ∈ UW := uw_t2 183 rfl rfl
theorem mw_424 : (Jvm.Cond.instanceMethod ({ cls := "java/lang/IllegalArgumentException", name := "<init>", desc := "(Ljava/lang/String;)V" } : Jvm.MethodName)) ∈ UW := uw_t2 184 rfl rfl
theorem mw_425 : (Jvm.Cond.code ({ cls := "java/lang/IllegalArgumentException", name := "<init>", desc := "(Ljava/lang/String;)V" } : Jvm.MethodName) prog_10_method_2_code (2 : Nat) (Option.none : Option Jvm.ClassFile.FieldType)) ∈ UW := uw_t2 185 rfl rfl
theorem mw_426 : (Jvm.Cond.methodLink "java/lang/IllegalArgumentException" (7 : Nat) ({ cls := "java/lang/RuntimeException", name := "<init>", desc := "(Ljava/lang/String;)V" } : Jvm.MethodName)) ∈ UW := uw_t2 186 rfl rfl
theorem mw_427 : (Jvm.Cond.instanceMethod ({ cls := "java/lang/RuntimeException", name := "<init>", desc := "(Ljava/lang/String;)V" } : Jvm.MethodName)) ∈ UW := uw_t2 187 rfl rfl
theorem mw_428 : (Jvm.Cond.code ({ cls := "java/lang/RuntimeException", name := "<init>", desc := "(Ljava/lang/String;)V" } : Jvm.MethodName) prog_14_method_2_code (2 : Nat) (Option.none : Option Jvm.ClassFile.FieldType)) ∈ UW := uw_t2 188 rfl rfl
theorem mw_429 : (Jvm.Cond.methodLink "java/lang/RuntimeException" (7 : Nat) ({ cls := "java/lang/Exception", name := "<init>", desc := "(Ljava/lang/String;)V" } : Jvm.MethodName)) ∈ UW := uw_t2 189 rfl rfl
theorem mw_430 : (Jvm.Cond.instanceMethod ({ cls := "java/lang/Exception", name := "<init>", desc := "(Ljava/lang/String;)V" } : Jvm.MethodName)) ∈ UW := uw_t2 190 rfl rfl
theorem mw_431 : (Jvm.Cond.code ({ cls := "java/lang/Exception", name := "<init>", desc := "(Ljava/lang/String;)V" } : Jvm.MethodName) prog_9_method_2_code (2 : Nat) (Option.none : Option Jvm.ClassFile.FieldType)) ∈ UW := uw_t2 191 rfl rfl
theorem mw_432 : (Jvm.Cond.methodLink "java/lang/Exception" (7 : Nat) ({ cls := "java/lang/Throwable", name := "<init>", desc := "(Ljava/lang/String;)V" } : Jvm.MethodName)) ∈ UW := uw_t2 192 rfl rfl
theorem mw_433 : (Jvm.Cond.instanceMethod ({ cls := "java/lang/Throwable", name := "<init>", desc := "(Ljava/lang/String;)V" } : Jvm.MethodName)) ∈ UW := uw_t2 193 rfl rfl
theorem mw_434 : (Jvm.Cond.code ({ cls := "java/lang/Throwable", name := "<init>", desc := "(Ljava/lang/String;)V" } : Jvm.MethodName) prog_17_method_2_code (2 : Nat) (Option.none : Option Jvm.ClassFile.FieldType)) ∈ UW := uw_t2 194 rfl rfl
theorem mw_435 : (Jvm.Cond.fieldLink "java/lang/Throwable" (198 : Nat) "java/lang/Throwable" "backtrace" "Ljava/lang/Object;") ∈ UW := uw_t2 195 rfl rfl
theorem mw_436 : (Jvm.Cond.fieldLink "java/lang/Throwable" (31 : Nat) "java/lang/Throwable" "detailMessage" "Ljava/lang/String;") ∈ UW := uw_t2 196 rfl rfl
theorem mw_437 : (Jvm.Cond.fieldLink "java/lang/Throwable" (7 : Nat) "java/lang/Throwable" "cause" "Ljava/lang/Throwable;") ∈ UW := uw_t2 197 rfl rfl
theorem mw_438 : (Jvm.Cond.fieldLink "java/lang/Throwable" (17 : Nat) "java/lang/Throwable" "stackTrace" "[Ljava/lang/StackTraceElement;") ∈ UW := uw_t2 198 rfl rfl
theorem mw_439 : (Jvm.Cond.fieldLink "java/lang/Throwable" (24 : Nat) "java/lang/Throwable" "suppressedExceptions" "Ljava/util/List;") ∈ UW := uw_t2 199 rfl rfl
theorem mw_444 : (Jvm.Cond.lays "java/lang/IllegalArgumentException" "java/lang/Throwable" "depth" "I") ∈ UW := uw_t2 204 rfl rfl
theorem mw_448 : (Jvm.Cond.arrayClass Jvm.ClassFile.FieldType.byte) ∈ UW := uw_t2 208 rfl rfl
theorem mw_449 : (Jvm.Cond.classLink "MixerStation" (49 : Nat) "java/lang/IllegalStateException") ∈ UW := uw_t2 209 rfl rfl
theorem mw_450 : (Jvm.Cond.instantiable "java/lang/IllegalStateException" (6 : Nat)) ∈ UW := uw_t2 210 rfl rfl
theorem mw_452 : (Jvm.Cond.selects "java/lang/IllegalStateException" ({ cls := "java/lang/Throwable", name := "fillInStackTrace", desc := "(I)Ljava/lang/Throwable;" } : Jvm.MethodName) ({ cls := "java/lang/Throwable", name := "fillInStackTrace", desc := "(I)Ljava/lang/Throwable;" } : Jvm.MethodName)) ∈ UW := uw_t2 212 rfl rfl
theorem mw_453 : (Jvm.Cond.lays "java/lang/IllegalStateException" "java/lang/Throwable" "cause" "Ljava/lang/Throwable;") ∈ UW := uw_t2 213 rfl rfl
theorem mw_454 : (Jvm.Cond.lays "java/lang/IllegalStateException" "java/lang/Throwable" "stackTrace" "[Ljava/lang/StackTraceElement;") ∈ UW := uw_t2 214 rfl rfl
theorem mw_455 : (Jvm.Cond.lays "java/lang/IllegalStateException" "java/lang/Throwable" "suppressedExceptions" "Ljava/util/List;") ∈ UW := uw_t2 215 rfl rfl
theorem mw_456 : (Jvm.Cond.lays "java/lang/IllegalStateException" "java/lang/Throwable" "detailMessage" "Ljava/lang/String;") ∈ UW := uw_t2 216 rfl rfl
theorem mw_457 : (Jvm.Cond.lays "java/lang/IllegalStateException" "java/lang/Throwable" "backtrace" "Ljava/lang/Object;") ∈ UW := uw_t2 217 rfl rfl
theorem mw_459 : (Jvm.Cond.methodLink "MixerStation" (53 : Nat) ({ cls := "java/lang/IllegalStateException", name := "<init>", desc := "(Ljava/lang/String;)V" } : Jvm.MethodName)) ∈ UW := uw_t2 219 rfl rfl
theorem mw_460 : (Jvm.Cond.instanceMethod ({ cls := "java/lang/IllegalStateException", name := "<init>", desc := "(Ljava/lang/String;)V" } : Jvm.MethodName)) ∈ UW := uw_t2 220 rfl rfl
theorem mw_461 : (Jvm.Cond.code ({ cls := "java/lang/IllegalStateException", name := "<init>", desc := "(Ljava/lang/String;)V" } : Jvm.MethodName) prog_11_method_2_code (2 : Nat) (Option.none : Option Jvm.ClassFile.FieldType)) ∈ UW := uw_t2 221 rfl rfl
theorem mw_462 : (Jvm.Cond.methodLink "java/lang/IllegalStateException" (7 : Nat) ({ cls := "java/lang/RuntimeException", name := "<init>", desc := "(Ljava/lang/String;)V" } : Jvm.MethodName)) ∈ UW := uw_t2 222 rfl rfl
theorem mw_463 : (Jvm.Cond.lays "java/lang/IllegalStateException" "java/lang/Throwable" "depth" "I") ∈ UW := uw_t2 223 rfl rfl
theorem mw_465 : (Jvm.Cond.methodLink "MixerStationLaw" (116 : Nat) ({ cls := "MixerStationLaw", name := "load", desc := "(LMixerStation;[J)I" } : Jvm.MethodName)) ∈ UW := uw_t2 225 rfl rfl
theorem mw_466 : (Jvm.Cond.static ({ cls := "MixerStationLaw", name := "load", desc := "(LMixerStation;[J)I" } : Jvm.MethodName)) ∈ UW := uw_t2 226 rfl rfl
theorem mw_467 : (Jvm.Cond.codeWith ({ cls := "MixerStationLaw", name := "load", desc := "(LMixerStation;[J)I" } : Jvm.MethodName) method_4_code (3 : Nat) (Option.some Jvm.ClassFile.FieldType.int) [((0 : Nat), (8 : Nat), (11 : Nat), (15 : Nat))]) ∈ UW := uw_t2 227 rfl rfl
theorem mw_468 : (Jvm.Cond.methodLink "MixerStationLaw" (17 : Nat) ({ cls := "MixerStation", name := "load", desc := "()I" } : Jvm.MethodName)) ∈ UW := uw_t2 228 rfl rfl
theorem mw_469 : (Jvm.Cond.instanceMethod ({ cls := "MixerStation", name := "load", desc := "()I" } : Jvm.MethodName)) ∈ UW := uw_t2 229 rfl rfl
theorem mw_470 : (Jvm.Cond.selects "MixerStation" ({ cls := "MixerStation", name := "load", desc := "()I" } : Jvm.MethodName) ({ cls := "MixerStation", name := "load", desc := "()I" } : Jvm.MethodName)) ∈ UW := uw_t2 230 rfl rfl
theorem mw_471 : (Jvm.Cond.code ({ cls := "MixerStation", name := "load", desc := "()I" } : Jvm.MethodName) prog_1_method_5_code (3 : Nat) (Option.some Jvm.ClassFile.FieldType.int)) ∈ UW := uw_t2 231 rfl rfl
theorem mw_473 : (Jvm.Cond.methodLink "MixerStation" (73 : Nat) ({ cls := "MixerStation$History", name := "forgetAll", desc := "()V" } : Jvm.MethodName)) ∈ UW := uw_t2 233 rfl rfl
theorem mw_474 : (Jvm.Cond.instanceMethod ({ cls := "MixerStation$History", name := "forgetAll", desc := "()V" } : Jvm.MethodName)) ∈ UW := uw_t2 234 rfl rfl
theorem mw_475 : (Jvm.Cond.selects "MixerStation$History" ({ cls := "MixerStation$History", name := "forgetAll", desc := "()V" } : Jvm.MethodName) ({ cls := "MixerStation$History", name := "forgetAll", desc := "()V" } : Jvm.MethodName)) ∈ UW := uw_t2 235 rfl rfl
theorem mw_476 : (Jvm.Cond.code ({ cls := "MixerStation$History", name := "forgetAll", desc := "()V" } : Jvm.MethodName) prog_2_method_3_code (1 : Nat) (Option.none : Option Jvm.ClassFile.FieldType)) ∈ UW := uw_t2 236 rfl rfl
theorem mw_477 : (Jvm.Cond.methodLink "MixerStationLaw" (120 : Nat) ({ cls := "MixerStationLaw", name := "about", desc := "(LMixerStation;I[J)I" } : Jvm.MethodName)) ∈ UW := uw_t2 237 rfl rfl
theorem mw_478 : (Jvm.Cond.static ({ cls := "MixerStationLaw", name := "about", desc := "(LMixerStation;I[J)I" } : Jvm.MethodName)) ∈ UW := uw_t2 238 rfl rfl
theorem mw_479 : (Jvm.Cond.codeWith ({ cls := "MixerStationLaw", name := "about", desc := "(LMixerStation;I[J)I" } : Jvm.MethodName) method_5_code (4 : Nat) (Option.some Jvm.ClassFile.FieldType.int) [((0 : Nat), (9 : Nat), (12 : Nat), (13 : Nat))]) ∈ UW := uw_t2 239 rfl rfl
theorem mw_480 : (Jvm.Cond.methodLink "MixerStationLaw" (21 : Nat) ({ cls := "MixerStation", name := "about", desc := "(I)I" } : Jvm.MethodName)) ∈ UW := uw_t3 0 rfl rfl
theorem mw_481 : (Jvm.Cond.instanceMethod ({ cls := "MixerStation", name := "about", desc := "(I)I" } : Jvm.MethodName)) ∈ UW := uw_t3 1 rfl rfl
theorem mw_482 : (Jvm.Cond.selects "MixerStation" ({ cls := "MixerStation", name := "about", desc := "(I)I" } : Jvm.MethodName) ({ cls := "MixerStation", name := "about", desc := "(I)I" } : Jvm.MethodName)) ∈ UW := uw_t3 2 rfl rfl
theorem mw_483 : (Jvm.Cond.code ({ cls := "MixerStation", name := "about", desc := "(I)I" } : Jvm.MethodName) prog_1_method_6_code (2 : Nat) (Option.some Jvm.ClassFile.FieldType.int)) ∈ UW := uw_t3 3 rfl rfl
theorem mw_484 : (Jvm.Cond.methodLink "MixerStation" (101 : Nat) ({ cls := "MixerStation$State", name := "loopShouldHave", desc := "()I" } : Jvm.MethodName)) ∈ UW := uw_t3 4 rfl rfl
theorem mw_485 : (Jvm.Cond.methodLink "MixerStation" (108 : Nat) ({ cls := "MixerStation$State", name := "allHeat", desc := "()I" } : Jvm.MethodName)) ∈ UW := uw_t3 5 rfl rfl
theorem mw_486 : (Jvm.Cond.instanceMethod ({ cls := "MixerStation$State", name := "allHeat", desc := "()I" } : Jvm.MethodName)) ∈ UW := uw_t3 6 rfl rfl
theorem mw_487 : (Jvm.Cond.selects "MixerStation$State" ({ cls := "MixerStation$State", name := "allHeat", desc := "()I" } : Jvm.MethodName) ({ cls := "MixerStation$State", name := "allHeat", desc := "()I" } : Jvm.MethodName)) ∈ UW := uw_t3 7 rfl rfl
theorem mw_488 : (Jvm.Cond.code ({ cls := "MixerStation$State", name := "allHeat", desc := "()I" } : Jvm.MethodName) prog_5_method_14_code (3 : Nat) (Option.some Jvm.ClassFile.FieldType.int)) ∈ UW := uw_t3 8 rfl rfl
theorem mw_489 : (Jvm.Cond.methodLink "MixerStation" (120 : Nat) ({ cls := "MixerStation$State", name := "allComfort", desc := "()I" } : Jvm.MethodName)) ∈ UW := uw_t3 9 rfl rfl
theorem mw_490 : (Jvm.Cond.instanceMethod ({ cls := "MixerStation$State", name := "allComfort", desc := "()I" } : Jvm.MethodName)) ∈ UW := uw_t3 10 rfl rfl
theorem mw_491 : (Jvm.Cond.selects "MixerStation$State" ({ cls := "MixerStation$State", name := "allComfort", desc := "()I" } : Jvm.MethodName) ({ cls := "MixerStation$State", name := "allComfort", desc := "()I" } : Jvm.MethodName)) ∈ UW := uw_t3 11 rfl rfl
theorem mw_492 : (Jvm.Cond.code ({ cls := "MixerStation$State", name := "allComfort", desc := "()I" } : Jvm.MethodName) prog_5_method_15_code (3 : Nat) (Option.some Jvm.ClassFile.FieldType.int)) ∈ UW := uw_t3 12 rfl rfl
theorem mw_494 : (Jvm.Cond.methodLink "MixerStationLaw" (123 : Nat) ({ cls := "MixerStationLaw", name := "setting", desc := "(LMixerStation;I[J)I" } : Jvm.MethodName)) ∈ UW := uw_t3 14 rfl rfl
theorem mw_495 : (Jvm.Cond.static ({ cls := "MixerStationLaw", name := "setting", desc := "(LMixerStation;I[J)I" } : Jvm.MethodName)) ∈ UW := uw_t3 15 rfl rfl
theorem mw_496 : (Jvm.Cond.codeWith ({ cls := "MixerStationLaw", name := "setting", desc := "(LMixerStation;I[J)I" } : Jvm.MethodName) method_6_code (4 : Nat) (Option.some Jvm.ClassFile.FieldType.int) [((0 : Nat), (9 : Nat), (12 : Nat), (13 : Nat))]) ∈ UW := uw_t3 16 rfl rfl
theorem mw_497 : (Jvm.Cond.methodLink "MixerStationLaw" (24 : Nat) ({ cls := "MixerStation", name := "setting", desc := "(I)I" } : Jvm.MethodName)) ∈ UW := uw_t3 17 rfl rfl
theorem mw_498 : (Jvm.Cond.instanceMethod ({ cls := "MixerStation", name := "setting", desc := "(I)I" } : Jvm.MethodName)) ∈ UW := uw_t3 18 rfl rfl
theorem mw_499 : (Jvm.Cond.selects "MixerStation" ({ cls := "MixerStation", name := "setting", desc := "(I)I" } : Jvm.MethodName) ({ cls := "MixerStation", name := "setting", desc := "(I)I" } : Jvm.MethodName)) ∈ UW := uw_t3 19 rfl rfl
theorem mw_500 : (Jvm.Cond.code ({ cls := "MixerStation", name := "setting", desc := "(I)I" } : Jvm.MethodName) prog_1_method_7_code (2 : Nat) (Option.some Jvm.ClassFile.FieldType.int)) ∈ UW := uw_t3 20 rfl rfl
theorem mw_502 : (Jvm.Cond.methodLink "MixerStationLaw" (126 : Nat) ({ cls := "MixerStationLaw", name := "place", desc := "(LMixerStation;II[J)I" } : Jvm.MethodName)) ∈ UW := uw_t3 22 rfl rfl
theorem mw_503 : (Jvm.Cond.static ({ cls := "MixerStationLaw", name := "place", desc := "(LMixerStation;II[J)I" } : Jvm.MethodName)) ∈ UW := uw_t3 23 rfl rfl
theorem mw_504 : (Jvm.Cond.codeWith ({ cls := "MixerStationLaw", name := "place", desc := "(LMixerStation;II[J)I" } : Jvm.MethodName) method_7_code (5 : Nat) (Option.some Jvm.ClassFile.FieldType.int) [((0 : Nat), (10 : Nat), (13 : Nat), (31 : Nat)), ((0 : Nat), (10 : Nat), (17 : Nat), (13 : Nat))]) ∈ UW := uw_t3 24 rfl rfl
theorem mw_505 : (Jvm.Cond.classLink "MixerStationLaw" (31 : Nat) "java/lang/IndexOutOfBoundsException") ∈ UW := uw_t3 25 rfl rfl
theorem mw_506 : (Jvm.Cond.methodLink "MixerStationLaw" (27 : Nat) ({ cls := "MixerStation", name := "place", desc := "(II)I" } : Jvm.MethodName)) ∈ UW := uw_t3 26 rfl rfl
theorem mw_507 : (Jvm.Cond.instanceMethod ({ cls := "MixerStation", name := "place", desc := "(II)I" } : Jvm.MethodName)) ∈ UW := uw_t3 27 rfl rfl
theorem mw_508 : (Jvm.Cond.selects "MixerStation" ({ cls := "MixerStation", name := "place", desc := "(II)I" } : Jvm.MethodName) ({ cls := "MixerStation", name := "place", desc := "(II)I" } : Jvm.MethodName)) ∈ UW := uw_t3 28 rfl rfl
theorem mw_509 : (Jvm.Cond.code ({ cls := "MixerStation", name := "place", desc := "(II)I" } : Jvm.MethodName) prog_1_method_8_code (3 : Nat) (Option.some Jvm.ClassFile.FieldType.int)) ∈ UW := uw_t3 29 rfl rfl
theorem mw_510 : (Jvm.Cond.methodLink "MixerStation" (131 : Nat) ({ cls := "MixerStation$State", name := "hasPlace", desc := "(I)Z" } : Jvm.MethodName)) ∈ UW := uw_t3 30 rfl rfl
theorem mw_511 : (Jvm.Cond.instanceMethod ({ cls := "MixerStation$State", name := "hasPlace", desc := "(I)Z" } : Jvm.MethodName)) ∈ UW := uw_t3 31 rfl rfl
theorem mw_512 : (Jvm.Cond.selects "MixerStation$State" ({ cls := "MixerStation$State", name := "hasPlace", desc := "(I)Z" } : Jvm.MethodName) ({ cls := "MixerStation$State", name := "hasPlace", desc := "(I)Z" } : Jvm.MethodName)) ∈ UW := uw_t3 32 rfl rfl
theorem mw_513 : (Jvm.Cond.code ({ cls := "MixerStation$State", name := "hasPlace", desc := "(I)Z" } : Jvm.MethodName) prog_5_method_5_code (2 : Nat) (Option.some Jvm.ClassFile.FieldType.boolean)) ∈ UW := uw_t3 33 rfl rfl
theorem mw_514 : (Jvm.Cond.methodLink "MixerStation$State" (86 : Nat) ({ cls := "MixerStation$State", name := "hasRoom", desc := "(I)Z" } : Jvm.MethodName)) ∈ UW := uw_t3 34 rfl rfl
theorem mw_515 : (Jvm.Cond.instanceMethod ({ cls := "MixerStation$State", name := "hasRoom", desc := "(I)Z" } : Jvm.MethodName)) ∈ UW := uw_t3 35 rfl rfl
theorem mw_516 : (Jvm.Cond.selects "MixerStation$State" ({ cls := "MixerStation$State", name := "hasRoom", desc := "(I)Z" } : Jvm.MethodName) ({ cls := "MixerStation$State", name := "hasRoom", desc := "(I)Z" } : Jvm.MethodName)) ∈ UW := uw_t3 36 rfl rfl
theorem mw_517 : (Jvm.Cond.code ({ cls := "MixerStation$State", name := "hasRoom", desc := "(I)Z" } : Jvm.MethodName) prog_5_method_4_code (2 : Nat) (Option.some Jvm.ClassFile.FieldType.boolean)) ∈ UW := uw_t3 37 rfl rfl
theorem mw_518 : (Jvm.Cond.classLink "MixerStation" (135 : Nat) "java/lang/IndexOutOfBoundsException") ∈ UW := uw_t3 38 rfl rfl
theorem mw_519 : (Jvm.Cond.instantiable "java/lang/IndexOutOfBoundsException" (6 : Nat)) ∈ UW := uw_t3 39 rfl rfl
theorem mw_521 : (Jvm.Cond.selects "java/lang/IndexOutOfBoundsException" ({ cls := "java/lang/Throwable", name := "fillInStackTrace", desc := "(I)Ljava/lang/Throwable;" } : Jvm.MethodName) ({ cls := "java/lang/Throwable", name := "fillInStackTrace", desc := "(I)Ljava/lang/Throwable;" } : Jvm.MethodName)) ∈ UW := uw_t3 41 rfl rfl
theorem mw_522 : (Jvm.Cond.lays "java/lang/IndexOutOfBoundsException" "java/lang/Throwable" "cause" "Ljava/lang/Throwable;") ∈ UW := uw_t3 42 rfl rfl
theorem mw_523 : (Jvm.Cond.lays "java/lang/IndexOutOfBoundsException" "java/lang/Throwable" "stackTrace" "[Ljava/lang/StackTraceElement;") ∈ UW := uw_t3 43 rfl rfl
theorem mw_524 : (Jvm.Cond.lays "java/lang/IndexOutOfBoundsException" "java/lang/Throwable" "suppressedExceptions" "Ljava/util/List;") ∈ UW := uw_t3 44 rfl rfl
theorem mw_525 : (Jvm.Cond.lays "java/lang/IndexOutOfBoundsException" "java/lang/Throwable" "detailMessage" "Ljava/lang/String;") ∈ UW := uw_t3 45 rfl rfl
theorem mw_526 : (Jvm.Cond.lays "java/lang/IndexOutOfBoundsException" "java/lang/Throwable" "backtrace" "Ljava/lang/Object;") ∈ UW := uw_t3 46 rfl rfl
theorem mw_528 : (Jvm.Cond.methodLink "MixerStation" (139 : Nat) ({ cls := "java/lang/IndexOutOfBoundsException", name := "<init>", desc := "(Ljava/lang/String;)V" } : Jvm.MethodName)) ∈ UW := uw_t3 48 rfl rfl
theorem mw_529 : (Jvm.Cond.instanceMethod ({ cls := "java/lang/IndexOutOfBoundsException", name := "<init>", desc := "(Ljava/lang/String;)V" } : Jvm.MethodName)) ∈ UW := uw_t3 49 rfl rfl
theorem mw_530 : (Jvm.Cond.code ({ cls := "java/lang/IndexOutOfBoundsException", name := "<init>", desc := "(Ljava/lang/String;)V" } : Jvm.MethodName) prog_12_method_2_code (2 : Nat) (Option.none : Option Jvm.ClassFile.FieldType)) ∈ UW := uw_t3 50 rfl rfl
theorem mw_531 : (Jvm.Cond.methodLink "java/lang/IndexOutOfBoundsException" (7 : Nat) ({ cls := "java/lang/RuntimeException", name := "<init>", desc := "(Ljava/lang/String;)V" } : Jvm.MethodName)) ∈ UW := uw_t3 51 rfl rfl
theorem mw_532 : (Jvm.Cond.lays "java/lang/IndexOutOfBoundsException" "java/lang/Throwable" "depth" "I") ∈ UW := uw_t3 52 rfl rfl
theorem mw_534 : (Jvm.Cond.methodLink "MixerStation" (140 : Nat) ({ cls := "MixerStation$State", name := "heatOf", desc := "(I)I" } : Jvm.MethodName)) ∈ UW := uw_t3 54 rfl rfl
theorem mw_535 : (Jvm.Cond.instanceMethod ({ cls := "MixerStation$State", name := "heatOf", desc := "(I)I" } : Jvm.MethodName)) ∈ UW := uw_t3 55 rfl rfl
theorem mw_536 : (Jvm.Cond.selects "MixerStation$State" ({ cls := "MixerStation$State", name := "heatOf", desc := "(I)I" } : Jvm.MethodName) ({ cls := "MixerStation$State", name := "heatOf", desc := "(I)I" } : Jvm.MethodName)) ∈ UW := uw_t3 56 rfl rfl
theorem mw_537 : (Jvm.Cond.code ({ cls := "MixerStation$State", name := "heatOf", desc := "(I)I" } : Jvm.MethodName) prog_5_method_11_code (2 : Nat) (Option.some Jvm.ClassFile.FieldType.int)) ∈ UW := uw_t3 57 rfl rfl
theorem mw_538 : (Jvm.Cond.methodLink "MixerStation" (146 : Nat) ({ cls := "MixerStation$State", name := "capacityOf", desc := "(I)I" } : Jvm.MethodName)) ∈ UW := uw_t3 58 rfl rfl
theorem mw_539 : (Jvm.Cond.instanceMethod ({ cls := "MixerStation$State", name := "capacityOf", desc := "(I)I" } : Jvm.MethodName)) ∈ UW := uw_t3 59 rfl rfl
theorem mw_540 : (Jvm.Cond.selects "MixerStation$State" ({ cls := "MixerStation$State", name := "capacityOf", desc := "(I)I" } : Jvm.MethodName) ({ cls := "MixerStation$State", name := "capacityOf", desc := "(I)I" } : Jvm.MethodName)) ∈ UW := uw_t3 60 rfl rfl
theorem mw_541 : (Jvm.Cond.code ({ cls := "MixerStation$State", name := "capacityOf", desc := "(I)I" } : Jvm.MethodName) prog_5_method_12_code (2 : Nat) (Option.some Jvm.ClassFile.FieldType.int)) ∈ UW := uw_t3 61 rfl rfl
theorem mw_543 : (Jvm.Cond.methodLink "MixerStationLaw" (130 : Nat) ({ cls := "MixerStationLaw", name := "room", desc := "(LMixerStation;II[J)I" } : Jvm.MethodName)) ∈ UW := uw_t3 63 rfl rfl
theorem mw_544 : (Jvm.Cond.static ({ cls := "MixerStationLaw", name := "room", desc := "(LMixerStation;II[J)I" } : Jvm.MethodName)) ∈ UW := uw_t3 64 rfl rfl
theorem mw_545 : (Jvm.Cond.codeWith ({ cls := "MixerStationLaw", name := "room", desc := "(LMixerStation;II[J)I" } : Jvm.MethodName) method_8_code (5 : Nat) (Option.some Jvm.ClassFile.FieldType.int) [((0 : Nat), (10 : Nat), (13 : Nat), (31 : Nat)), ((0 : Nat), (10 : Nat), (17 : Nat), (13 : Nat))]) ∈ UW := uw_t3 65 rfl rfl
theorem mw_546 : (Jvm.Cond.methodLink "MixerStationLaw" (33 : Nat) ({ cls := "MixerStation", name := "room", desc := "(II)I" } : Jvm.MethodName)) ∈ UW := uw_t3 66 rfl rfl
theorem mw_547 : (Jvm.Cond.instanceMethod ({ cls := "MixerStation", name := "room", desc := "(II)I" } : Jvm.MethodName)) ∈ UW := uw_t3 67 rfl rfl
theorem mw_548 : (Jvm.Cond.selects "MixerStation" ({ cls := "MixerStation", name := "room", desc := "(II)I" } : Jvm.MethodName) ({ cls := "MixerStation", name := "room", desc := "(II)I" } : Jvm.MethodName)) ∈ UW := uw_t3 68 rfl rfl
theorem mw_549 : (Jvm.Cond.code ({ cls := "MixerStation", name := "room", desc := "(II)I" } : Jvm.MethodName) prog_1_method_9_code (4 : Nat) (Option.some Jvm.ClassFile.FieldType.int)) ∈ UW := uw_t3 69 rfl rfl
theorem mw_550 : (Jvm.Cond.methodLink "MixerStation" (151 : Nat) ({ cls := "MixerStation$State", name := "hasRoom", desc := "(I)Z" } : Jvm.MethodName)) ∈ UW := uw_t3 70 rfl rfl
theorem mw_553 : (Jvm.Cond.methodLink "MixerStationLaw" (133 : Nat) ({ cls := "MixerStationLaw", name := "moved", desc := "(LMixerStation;II[J)I" } : Jvm.MethodName)) ∈ UW := uw_t3 73 rfl rfl
theorem mw_554 : (Jvm.Cond.static ({ cls := "MixerStationLaw", name := "moved", desc := "(LMixerStation;II[J)I" } : Jvm.MethodName)) ∈ UW := uw_t3 74 rfl rfl
theorem mw_555 : (Jvm.Cond.codeWith ({ cls := "MixerStationLaw", name := "moved", desc := "(LMixerStation;II[J)I" } : Jvm.MethodName) method_9_code (5 : Nat) (Option.some Jvm.ClassFile.FieldType.int) [((0 : Nat), (10 : Nat), (13 : Nat), (13 : Nat))]) ∈ UW := uw_t3 75 rfl rfl
theorem mw_556 : (Jvm.Cond.methodLink "MixerStationLaw" (36 : Nat) ({ cls := "MixerStation", name := "moved", desc := "(II)I" } : Jvm.MethodName)) ∈ UW := uw_t3 76 rfl rfl
theorem mw_557 : (Jvm.Cond.instanceMethod ({ cls := "MixerStation", name := "moved", desc := "(II)I" } : Jvm.MethodName)) ∈ UW := uw_t3 77 rfl rfl
theorem mw_558 : (Jvm.Cond.selects "MixerStation" ({ cls := "MixerStation", name := "moved", desc := "(II)I" } : Jvm.MethodName) ({ cls := "MixerStation", name := "moved", desc := "(II)I" } : Jvm.MethodName)) ∈ UW := uw_t3 78 rfl rfl
theorem mw_559 : (Jvm.Cond.code ({ cls := "MixerStation", name := "moved", desc := "(II)I" } : Jvm.MethodName) prog_1_method_10_code (3 : Nat) (Option.some Jvm.ClassFile.FieldType.int)) ∈ UW := uw_t3 79 rfl rfl
theorem mw_561 : (Jvm.Cond.methodLink "MixerStation" (187 : Nat) ({ cls := "MixerStation$Ledger", name := "sumBetween", desc := "(II)I" } : Jvm.MethodName)) ∈ UW := uw_t3 81 rfl rfl
theorem mw_562 : (Jvm.Cond.instanceMethod ({ cls := "MixerStation$Ledger", name := "sumBetween", desc := "(II)I" } : Jvm.MethodName)) ∈ UW := uw_t3 82 rfl rfl
theorem mw_563 : (Jvm.Cond.selects "MixerStation$Ledger" ({ cls := "MixerStation$Ledger", name := "sumBetween", desc := "(II)I" } : Jvm.MethodName) ({ cls := "MixerStation$Ledger", name := "sumBetween", desc := "(II)I" } : Jvm.MethodName)) ∈ UW := uw_t3 83 rfl rfl
theorem mw_564 : (Jvm.Cond.code ({ cls := "MixerStation$Ledger", name := "sumBetween", desc := "(II)I" } : Jvm.MethodName) prog_3_method_5_code (4 : Nat) (Option.some Jvm.ClassFile.FieldType.int)) ∈ UW := uw_t3 84 rfl rfl
theorem mw_565 : (Jvm.Cond.methodLink "MixerStationLaw" (136 : Nat) ({ cls := "MixerStationLaw", name := "way", desc := "(LMixerStation;II[J)I" } : Jvm.MethodName)) ∈ UW := uw_t3 85 rfl rfl
theorem mw_566 : (Jvm.Cond.static ({ cls := "MixerStationLaw", name := "way", desc := "(LMixerStation;II[J)I" } : Jvm.MethodName)) ∈ UW := uw_t3 86 rfl rfl
theorem mw_567 : (Jvm.Cond.codeWith ({ cls := "MixerStationLaw", name := "way", desc := "(LMixerStation;II[J)I" } : Jvm.MethodName) method_10_code (5 : Nat) (Option.some Jvm.ClassFile.FieldType.int) [((0 : Nat), (10 : Nat), (13 : Nat), (31 : Nat)), ((0 : Nat), (10 : Nat), (17 : Nat), (13 : Nat))]) ∈ UW := uw_t3 87 rfl rfl
theorem mw_568 : (Jvm.Cond.methodLink "MixerStationLaw" (39 : Nat) ({ cls := "MixerStation", name := "way", desc := "(II)I" } : Jvm.MethodName)) ∈ UW := uw_t3 88 rfl rfl
theorem mw_569 : (Jvm.Cond.instanceMethod ({ cls := "MixerStation", name := "way", desc := "(II)I" } : Jvm.MethodName)) ∈ UW := uw_t3 89 rfl rfl
theorem mw_570 : (Jvm.Cond.selects "MixerStation" ({ cls := "MixerStation", name := "way", desc := "(II)I" } : Jvm.MethodName) ({ cls := "MixerStation", name := "way", desc := "(II)I" } : Jvm.MethodName)) ∈ UW := uw_t3 90 rfl rfl
theorem mw_571 : (Jvm.Cond.code ({ cls := "MixerStation", name := "way", desc := "(II)I" } : Jvm.MethodName) prog_1_method_11_code (3 : Nat) (Option.some Jvm.ClassFile.FieldType.int)) ∈ UW := uw_t3 91 rfl rfl
theorem mw_572 : (Jvm.Cond.methodLink "MixerStation" (191 : Nat) ({ cls := "MixerStation$Ledger", name := "hasWay", desc := "(I)Z" } : Jvm.MethodName)) ∈ UW := uw_t3 92 rfl rfl
theorem mw_573 : (Jvm.Cond.instanceMethod ({ cls := "MixerStation$Ledger", name := "hasWay", desc := "(I)Z" } : Jvm.MethodName)) ∈ UW := uw_t3 93 rfl rfl
theorem mw_574 : (Jvm.Cond.selects "MixerStation$Ledger" ({ cls := "MixerStation$Ledger", name := "hasWay", desc := "(I)Z" } : Jvm.MethodName) ({ cls := "MixerStation$Ledger", name := "hasWay", desc := "(I)Z" } : Jvm.MethodName)) ∈ UW := uw_t3 94 rfl rfl
theorem mw_575 : (Jvm.Cond.code ({ cls := "MixerStation$Ledger", name := "hasWay", desc := "(I)Z" } : Jvm.MethodName) prog_3_method_3_code (2 : Nat) (Option.some Jvm.ClassFile.FieldType.boolean)) ∈ UW := uw_t3 95 rfl rfl
theorem mw_578 : (Jvm.Cond.methodLink "MixerStationLaw" (139 : Nat) ({ cls := "MixerStationLaw", name := "addRoom", desc := "(LMixerStation;IIII[J)I" } : Jvm.MethodName)) ∈ UW := uw_t3 98 rfl rfl
theorem mw_579 : (Jvm.Cond.static ({ cls := "MixerStationLaw", name := "addRoom", desc := "(LMixerStation;IIII[J)I" } : Jvm.MethodName)) ∈ UW := uw_t3 99 rfl rfl
theorem mw_580 : (Jvm.Cond.codeWith ({ cls := "MixerStationLaw", name := "addRoom", desc := "(LMixerStation;IIII[J)I" } : Jvm.MethodName) method_11_code (7 : Nat) (Option.some Jvm.ClassFile.FieldType.int) [((0 : Nat), (14 : Nat), (17 : Nat), (13 : Nat)), ((0 : Nat), (14 : Nat), (21 : Nat), (15 : Nat))]) ∈ UW := uw_t3 100 rfl rfl
theorem mw_581 : (Jvm.Cond.methodLink "MixerStationLaw" (42 : Nat) ({ cls := "MixerStation", name := "addRoom", desc := "(IIII)I" } : Jvm.MethodName)) ∈ UW := uw_t3 101 rfl rfl
theorem mw_582 : (Jvm.Cond.instanceMethod ({ cls := "MixerStation", name := "addRoom", desc := "(IIII)I" } : Jvm.MethodName)) ∈ UW := uw_t3 102 rfl rfl
theorem mw_583 : (Jvm.Cond.selects "MixerStation" ({ cls := "MixerStation", name := "addRoom", desc := "(IIII)I" } : Jvm.MethodName) ({ cls := "MixerStation", name := "addRoom", desc := "(IIII)I" } : Jvm.MethodName)) ∈ UW := uw_t3 103 rfl rfl
theorem mw_584 : (Jvm.Cond.code ({ cls := "MixerStation", name := "addRoom", desc := "(IIII)I" } : Jvm.MethodName) prog_1_method_12_code (5 : Nat) (Option.some Jvm.ClassFile.FieldType.int)) ∈ UW := uw_t3 104 rfl rfl
theorem mw_585 : (Jvm.Cond.methodLink "MixerStation" (208 : Nat) ({ cls := "MixerStation", name := "wantedAllowed", desc := "(I)Z" } : Jvm.MethodName)) ∈ UW := uw_t3 105 rfl rfl
theorem mw_586 : (Jvm.Cond.static ({ cls := "MixerStation", name := "wantedAllowed", desc := "(I)Z" } : Jvm.MethodName)) ∈ UW := uw_t3 106 rfl rfl
theorem mw_587 : (Jvm.Cond.code ({ cls := "MixerStation", name := "wantedAllowed", desc := "(I)Z" } : Jvm.MethodName) prog_1_method_35_code (1 : Nat) (Option.some Jvm.ClassFile.FieldType.boolean)) ∈ UW := uw_t3 107 rfl rfl
theorem mw_588 : (Jvm.Cond.methodLink "MixerStation" (211 : Nat) ({ cls := "MixerStation", name := "radiatorsAllowed", desc := "(I)Z" } : Jvm.MethodName)) ∈ UW := uw_t3 108 rfl rfl
theorem mw_589 : (Jvm.Cond.static ({ cls := "MixerStation", name := "radiatorsAllowed", desc := "(I)Z" } : Jvm.MethodName)) ∈ UW := uw_t3 109 rfl rfl
theorem mw_590 : (Jvm.Cond.code ({ cls := "MixerStation", name := "radiatorsAllowed", desc := "(I)Z" } : Jvm.MethodName) prog_1_method_36_code (1 : Nat) (Option.some Jvm.ClassFile.FieldType.boolean)) ∈ UW := uw_t3 110 rfl rfl
theorem mw_591 : (Jvm.Cond.methodLink "MixerStation" (214 : Nat) ({ cls := "MixerStation", name := "leakAllowed", desc := "(I)Z" } : Jvm.MethodName)) ∈ UW := uw_t3 111 rfl rfl
theorem mw_592 : (Jvm.Cond.static ({ cls := "MixerStation", name := "leakAllowed", desc := "(I)Z" } : Jvm.MethodName)) ∈ UW := uw_t3 112 rfl rfl
theorem mw_593 : (Jvm.Cond.code ({ cls := "MixerStation", name := "leakAllowed", desc := "(I)Z" } : Jvm.MethodName) prog_1_method_37_code (1 : Nat) (Option.some Jvm.ClassFile.FieldType.boolean)) ∈ UW := uw_t3 113 rfl rfl
theorem mw_595 : (Jvm.Cond.methodLink "MixerStation" (219 : Nat) ({ cls := "MixerStation$State", name := "isFull", desc := "()Z" } : Jvm.MethodName)) ∈ UW := uw_t3 115 rfl rfl
theorem mw_597 : (Jvm.Cond.methodLink "MixerStation" (225 : Nat) ({ cls := "MixerStation$History", name := "remember", desc := "(LMixerStation$State;)V" } : Jvm.MethodName)) ∈ UW := uw_t3 117 rfl rfl
theorem mw_598 : (Jvm.Cond.instanceMethod ({ cls := "MixerStation$History", name := "remember", desc := "(LMixerStation$State;)V" } : Jvm.MethodName)) ∈ UW := uw_t3 118 rfl rfl
theorem mw_599 : (Jvm.Cond.selects "MixerStation$History" ({ cls := "MixerStation$History", name := "remember", desc := "(LMixerStation$State;)V" } : Jvm.MethodName) ({ cls := "MixerStation$History", name := "remember", desc := "(LMixerStation$State;)V" } : Jvm.MethodName)) ∈ UW := uw_t3 119 rfl rfl
theorem mw_600 : (Jvm.Cond.code ({ cls := "MixerStation$History", name := "remember", desc := "(LMixerStation$State;)V" } : Jvm.MethodName) prog_2_method_4_code (2 : Nat) (Option.none : Option Jvm.ClassFile.FieldType)) ∈ UW := uw_t3 120 rfl rfl
theorem mw_601 : (Jvm.Cond.methodLink "MixerStation$History" (22 : Nat) ({ cls := "MixerStation$History", name := "forgetOldest", desc := "()V" } : Jvm.MethodName)) ∈ UW := uw_t3 121 rfl rfl
theorem mw_603 : (Jvm.Cond.instanceMethod ({ cls := "MixerStation$History", name := "forgetOldest", desc := "()V" } : Jvm.MethodName)) ∈ UW := uw_t3 123 rfl rfl
theorem mw_604 : (Jvm.Cond.code ({ cls := "MixerStation$History", name := "forgetOldest", desc := "()V" } : Jvm.MethodName) prog_2_method_5_code (3 : Nat) (Option.none : Option Jvm.ClassFile.FieldType)) ∈ UW := uw_t3 124 rfl rfl
theorem mw_605 : (Jvm.Cond.methodLink "MixerStation$History" (25 : Nat) ({ cls := "MixerStation$State", name := "copyFrom", desc := "(LMixerStation$State;)V" } : Jvm.MethodName)) ∈ UW := uw_t3 125 rfl rfl
theorem mw_606 : (Jvm.Cond.methodLink "MixerStation" (228 : Nat) ({ cls := "MixerStation$State", name := "buildRoom", desc := "(IIII)V" } : Jvm.MethodName)) ∈ UW := uw_t3 126 rfl rfl
theorem mw_607 : (Jvm.Cond.methodLink "MixerStationLaw" (143 : Nat) ({ cls := "MixerStationLaw", name := "setRoom", desc := "(LMixerStation;III[J)I" } : Jvm.MethodName)) ∈ UW := uw_t3 127 rfl rfl
theorem mw_608 : (Jvm.Cond.static ({ cls := "MixerStationLaw", name := "setRoom", desc := "(LMixerStation;III[J)I" } : Jvm.MethodName)) ∈ UW := uw_t3 128 rfl rfl
theorem mw_609 : (Jvm.Cond.codeWith ({ cls := "MixerStationLaw", name := "setRoom", desc := "(LMixerStation;III[J)I" } : Jvm.MethodName) method_12_code (6 : Nat) (Option.some Jvm.ClassFile.FieldType.int) [((0 : Nat), (12 : Nat), (15 : Nat), (31 : Nat)), ((0 : Nat), (12 : Nat), (19 : Nat), (13 : Nat))]) ∈ UW := uw_t3 129 rfl rfl
theorem mw_610 : (Jvm.Cond.methodLink "MixerStationLaw" (46 : Nat) ({ cls := "MixerStation", name := "setRoom", desc := "(III)I" } : Jvm.MethodName)) ∈ UW := uw_t3 130 rfl rfl
theorem mw_611 : (Jvm.Cond.instanceMethod ({ cls := "MixerStation", name := "setRoom", desc := "(III)I" } : Jvm.MethodName)) ∈ UW := uw_t3 131 rfl rfl
theorem mw_612 : (Jvm.Cond.selects "MixerStation" ({ cls := "MixerStation", name := "setRoom", desc := "(III)I" } : Jvm.MethodName) ({ cls := "MixerStation", name := "setRoom", desc := "(III)I" } : Jvm.MethodName)) ∈ UW := uw_t3 132 rfl rfl
theorem mw_613 : (Jvm.Cond.code ({ cls := "MixerStation", name := "setRoom", desc := "(III)I" } : Jvm.MethodName) prog_1_method_13_code (4 : Nat) (Option.some Jvm.ClassFile.FieldType.int)) ∈ UW := uw_t3 133 rfl rfl
theorem mw_614 : (Jvm.Cond.methodLink "MixerStation" (232 : Nat) ({ cls := "MixerStation", name := "roomNumberAllowed", desc := "(II)Z" } : Jvm.MethodName)) ∈ UW := uw_t3 134 rfl rfl
theorem mw_615 : (Jvm.Cond.static ({ cls := "MixerStation", name := "roomNumberAllowed", desc := "(II)Z" } : Jvm.MethodName)) ∈ UW := uw_t3 135 rfl rfl
theorem mw_616 : (Jvm.Cond.code ({ cls := "MixerStation", name := "roomNumberAllowed", desc := "(II)Z" } : Jvm.MethodName) prog_1_method_38_code (2 : Nat) (Option.some Jvm.ClassFile.FieldType.boolean)) ∈ UW := uw_t3 136 rfl rfl
theorem mw_618 : (Jvm.Cond.methodLink "MixerStation" (238 : Nat) ({ cls := "MixerStation$Room", name := "change", desc := "(II)I" } : Jvm.MethodName)) ∈ UW := uw_t3 138 rfl rfl
theorem mw_619 : (Jvm.Cond.instanceMethod ({ cls := "MixerStation$Room", name := "change", desc := "(II)I" } : Jvm.MethodName)) ∈ UW := uw_t3 139 rfl rfl
theorem mw_620 : (Jvm.Cond.selects "MixerStation$Room" ({ cls := "MixerStation$Room", name := "change", desc := "(II)I" } : Jvm.MethodName) ({ cls := "MixerStation$Room", name := "change", desc := "(II)I" } : Jvm.MethodName)) ∈ UW := uw_t3 140 rfl rfl
theorem mw_621 : (Jvm.Cond.code ({ cls := "MixerStation$Room", name := "change", desc := "(II)I" } : Jvm.MethodName) prog_4_method_4_code (4 : Nat) (Option.some Jvm.ClassFile.FieldType.int)) ∈ UW := uw_t3 141 rfl rfl
theorem mw_622 : (Jvm.Cond.methodLink "MixerStationLaw" (147 : Nat) ({ cls := "MixerStationLaw", name := "window", desc := "(LMixerStation;IZ[J)I" } : Jvm.MethodName)) ∈ UW := uw_t3 142 rfl rfl
theorem mw_623 : (Jvm.Cond.static ({ cls := "MixerStationLaw", name := "window", desc := "(LMixerStation;IZ[J)I" } : Jvm.MethodName)) ∈ UW := uw_t3 143 rfl rfl
theorem mw_624 : (Jvm.Cond.codeWith ({ cls := "MixerStationLaw", name := "window", desc := "(LMixerStation;IZ[J)I" } : Jvm.MethodName) method_13_code (5 : Nat) (Option.some Jvm.ClassFile.FieldType.int) [((0 : Nat), (10 : Nat), (13 : Nat), (31 : Nat))]) ∈ UW := uw_t3 144 rfl rfl
theorem mw_625 : (Jvm.Cond.methodLink "MixerStationLaw" (50 : Nat) ({ cls := "MixerStation", name := "window", desc := "(IZ)I" } : Jvm.MethodName)) ∈ UW := uw_t3 145 rfl rfl
theorem mw_626 : (Jvm.Cond.instanceMethod ({ cls := "MixerStation", name := "window", desc := "(IZ)I" } : Jvm.MethodName)) ∈ UW := uw_t3 146 rfl rfl
theorem mw_627 : (Jvm.Cond.selects "MixerStation" ({ cls := "MixerStation", name := "window", desc := "(IZ)I" } : Jvm.MethodName) ({ cls := "MixerStation", name := "window", desc := "(IZ)I" } : Jvm.MethodName)) ∈ UW := uw_t3 147 rfl rfl
theorem mw_628 : (Jvm.Cond.code ({ cls := "MixerStation", name := "window", desc := "(IZ)I" } : Jvm.MethodName) prog_1_method_14_code (3 : Nat) (Option.some Jvm.ClassFile.FieldType.int)) ∈ UW := uw_t3 148 rfl rfl
theorem mw_629 : (Jvm.Cond.methodLink "MixerStation" (241 : Nat) ({ cls := "MixerStation$State", name := "openWindows", desc := "()I" } : Jvm.MethodName)) ∈ UW := uw_t3 149 rfl rfl
theorem mw_630 : (Jvm.Cond.instanceMethod ({ cls := "MixerStation$State", name := "openWindows", desc := "()I" } : Jvm.MethodName)) ∈ UW := uw_t3 150 rfl rfl
theorem mw_631 : (Jvm.Cond.selects "MixerStation$State" ({ cls := "MixerStation$State", name := "openWindows", desc := "()I" } : Jvm.MethodName) ({ cls := "MixerStation$State", name := "openWindows", desc := "()I" } : Jvm.MethodName)) ∈ UW := uw_t3 151 rfl rfl
theorem mw_632 : (Jvm.Cond.code ({ cls := "MixerStation$State", name := "openWindows", desc := "()I" } : Jvm.MethodName) prog_5_method_16_code (3 : Nat) (Option.some Jvm.ClassFile.FieldType.int)) ∈ UW := uw_t3 152 rfl rfl
theorem mw_633 : (Jvm.Cond.methodLink "MixerStationLaw" (151 : Nat) ({ cls := "MixerStationLaw", name := "set", desc := "(LMixerStation;II[J)I" } : Jvm.MethodName)) ∈ UW := uw_t3 153 rfl rfl
theorem mw_634 : (Jvm.Cond.static ({ cls := "MixerStationLaw", name := "set", desc := "(LMixerStation;II[J)I" } : Jvm.MethodName)) ∈ UW := uw_t3 154 rfl rfl
theorem mw_635 : (Jvm.Cond.codeWith ({ cls := "MixerStationLaw", name := "set", desc := "(LMixerStation;II[J)I" } : Jvm.MethodName) method_14_code (5 : Nat) (Option.some Jvm.ClassFile.FieldType.int) [((0 : Nat), (10 : Nat), (13 : Nat), (13 : Nat))]) ∈ UW := uw_t3 155 rfl rfl
theorem mw_636 : (Jvm.Cond.methodLink "MixerStationLaw" (54 : Nat) ({ cls := "MixerStation", name := "set", desc := "(II)I" } : Jvm.MethodName)) ∈ UW := uw_t3 156 rfl rfl
theorem mw_637 : (Jvm.Cond.instanceMethod ({ cls := "MixerStation", name := "set", desc := "(II)I" } : Jvm.MethodName)) ∈ UW := uw_t3 157 rfl rfl
theorem mw_638 : (Jvm.Cond.selects "MixerStation" ({ cls := "MixerStation", name := "set", desc := "(II)I" } : Jvm.MethodName) ({ cls := "MixerStation", name := "set", desc := "(II)I" } : Jvm.MethodName)) ∈ UW := uw_t3 158 rfl rfl
theorem mw_639 : (Jvm.Cond.code ({ cls := "MixerStation", name := "set", desc := "(II)I" } : Jvm.MethodName) prog_1_method_15_code (4 : Nat) (Option.some Jvm.ClassFile.FieldType.int)) ∈ UW := uw_t3 159 rfl rfl
theorem mw_640 : (Jvm.Cond.methodLink "MixerStation" (244 : Nat) ({ cls := "MixerStation", name := "settingAllowed", desc := "(II)Z" } : Jvm.MethodName)) ∈ UW := uw_t3 160 rfl rfl
theorem mw_641 : (Jvm.Cond.static ({ cls := "MixerStation", name := "settingAllowed", desc := "(II)Z" } : Jvm.MethodName)) ∈ UW := uw_t3 161 rfl rfl
theorem mw_642 : (Jvm.Cond.code ({ cls := "MixerStation", name := "settingAllowed", desc := "(II)Z" } : Jvm.MethodName) prog_1_method_32_code (2 : Nat) (Option.some Jvm.ClassFile.FieldType.boolean)) ∈ UW := uw_t3 162 rfl rfl
theorem mw_643 : (Jvm.Cond.methodLink "MixerStation" (298 : Nat) ({ cls := "MixerStation", name := "lowestSetting", desc := "(I)I" } : Jvm.MethodName)) ∈ UW := uw_t3 163 rfl rfl
theorem mw_644 : (Jvm.Cond.methodLink "MixerStation" (301 : Nat) ({ cls := "MixerStation", name := "highestSetting", desc := "(I)I" } : Jvm.MethodName)) ∈ UW := uw_t3 164 rfl rfl
theorem mw_646 : (Jvm.Cond.methodLink "MixerStation" (249 : Nat) ({ cls := "MixerStation$State", name := "changeSetting", desc := "(II)V" } : Jvm.MethodName)) ∈ UW := uw_t3 166 rfl rfl
theorem mw_647 : (Jvm.Cond.methodLink "MixerStationLaw" (154 : Nat) ({ cls := "MixerStationLaw", name := "outside", desc := "(LMixerStation;I[J)I" } : Jvm.MethodName)) ∈ UW := uw_t3 167 rfl rfl
theorem mw_648 : (Jvm.Cond.static ({ cls := "MixerStationLaw", name := "outside", desc := "(LMixerStation;I[J)I" } : Jvm.MethodName)) ∈ UW := uw_t3 168 rfl rfl
theorem mw_649 : (Jvm.Cond.codeWith ({ cls := "MixerStationLaw", name := "outside", desc := "(LMixerStation;I[J)I" } : Jvm.MethodName) method_15_code (4 : Nat) (Option.some Jvm.ClassFile.FieldType.int) [((0 : Nat), (9 : Nat), (12 : Nat), (13 : Nat))]) ∈ UW := uw_t3 169 rfl rfl
theorem mw_650 : (Jvm.Cond.methodLink "MixerStationLaw" (57 : Nat) ({ cls := "MixerStation", name := "outside", desc := "(I)I" } : Jvm.MethodName)) ∈ UW := uw_t3 170 rfl rfl
theorem mw_651 : (Jvm.Cond.instanceMethod ({ cls := "MixerStation", name := "outside", desc := "(I)I" } : Jvm.MethodName)) ∈ UW := uw_t3 171 rfl rfl
theorem mw_652 : (Jvm.Cond.selects "MixerStation" ({ cls := "MixerStation", name := "outside", desc := "(I)I" } : Jvm.MethodName) ({ cls := "MixerStation", name := "outside", desc := "(I)I" } : Jvm.MethodName)) ∈ UW := uw_t3 172 rfl rfl
theorem mw_653 : (Jvm.Cond.code ({ cls := "MixerStation", name := "outside", desc := "(I)I" } : Jvm.MethodName) prog_1_method_16_code (3 : Nat) (Option.some Jvm.ClassFile.FieldType.int)) ∈ UW := uw_t3 173 rfl rfl
theorem mw_654 : (Jvm.Cond.methodLink "MixerStation" (253 : Nat) ({ cls := "MixerStation", name := "outsideAllowed", desc := "(I)Z" } : Jvm.MethodName)) ∈ UW := uw_t3 174 rfl rfl
theorem mw_655 : (Jvm.Cond.static ({ cls := "MixerStation", name := "outsideAllowed", desc := "(I)Z" } : Jvm.MethodName)) ∈ UW := uw_t3 175 rfl rfl
theorem mw_656 : (Jvm.Cond.code ({ cls := "MixerStation", name := "outsideAllowed", desc := "(I)Z" } : Jvm.MethodName) prog_1_method_33_code (1 : Nat) (Option.some Jvm.ClassFile.FieldType.boolean)) ∈ UW := uw_t3 176 rfl rfl
theorem mw_658 : (Jvm.Cond.methodLink "MixerStationLaw" (157 : Nat) ({ cls := "MixerStationLaw", name := "pass", desc := "(LMixerStation;I[J)I" } : Jvm.MethodName)) ∈ UW := uw_t3 178 rfl rfl
theorem mw_659 : (Jvm.Cond.static ({ cls := "MixerStationLaw", name := "pass", desc := "(LMixerStation;I[J)I" } : Jvm.MethodName)) ∈ UW := uw_t3 179 rfl rfl
theorem mw_660 : (Jvm.Cond.codeWith ({ cls := "MixerStationLaw", name := "pass", desc := "(LMixerStation;I[J)I" } : Jvm.MethodName) method_16_code (4 : Nat) (Option.some Jvm.ClassFile.FieldType.int) [((0 : Nat), (9 : Nat), (12 : Nat), (13 : Nat))]) ∈ UW := uw_t3 180 rfl rfl
theorem mw_661 : (Jvm.Cond.methodLink "MixerStationLaw" (60 : Nat) ({ cls := "MixerStation", name := "pass", desc := "(I)I" } : Jvm.MethodName)) ∈ UW := uw_t3 181 rfl rfl
theorem mw_662 : (Jvm.Cond.instanceMethod ({ cls := "MixerStation", name := "pass", desc := "(I)I" } : Jvm.MethodName)) ∈ UW := uw_t3 182 rfl rfl
theorem mw_663 : (Jvm.Cond.selects "MixerStation" ({ cls := "MixerStation", name := "pass", desc := "(I)I" } : Jvm.MethodName) ({ cls := "MixerStation", name := "pass", desc := "(I)I" } : Jvm.MethodName)) ∈ UW := uw_t3 183 rfl rfl
theorem mw_664 : (Jvm.Cond.code ({ cls := "MixerStation", name := "pass", desc := "(I)I" } : Jvm.MethodName) prog_1_method_17_code (3 : Nat) (Option.some Jvm.ClassFile.FieldType.int)) ∈ UW := uw_t3 184 rfl rfl
theorem mw_665 : (Jvm.Cond.methodLink "MixerStation" (258 : Nat) ({ cls := "MixerStation", name := "passAllowed", desc := "(I)Z" } : Jvm.MethodName)) ∈ UW := uw_t3 185 rfl rfl
theorem mw_666 : (Jvm.Cond.static ({ cls := "MixerStation", name := "passAllowed", desc := "(I)Z" } : Jvm.MethodName)) ∈ UW := uw_t3 186 rfl rfl
theorem mw_667 : (Jvm.Cond.code ({ cls := "MixerStation", name := "passAllowed", desc := "(I)Z" } : Jvm.MethodName) prog_1_method_34_code (1 : Nat) (Option.some Jvm.ClassFile.FieldType.boolean)) ∈ UW := uw_t3 187 rfl rfl
theorem mw_669 : (Jvm.Cond.methodLink "MixerStation" (263 : Nat) ({ cls := "MixerStation$State", name := "advance", desc := "(I)V" } : Jvm.MethodName)) ∈ UW := uw_t3 189 rfl rfl
theorem mw_670 : (Jvm.Cond.instanceMethod ({ cls := "MixerStation$State", name := "advance", desc := "(I)V" } : Jvm.MethodName)) ∈ UW := uw_t3 190 rfl rfl
theorem mw_671 : (Jvm.Cond.selects "MixerStation$State" ({ cls := "MixerStation$State", name := "advance", desc := "(I)V" } : Jvm.MethodName) ({ cls := "MixerStation$State", name := "advance", desc := "(I)V" } : Jvm.MethodName)) ∈ UW := uw_t3 191 rfl rfl
theorem mw_672 : (Jvm.Cond.code ({ cls := "MixerStation$State", name := "advance", desc := "(I)V" } : Jvm.MethodName) prog_5_method_21_code (3 : Nat) (Option.none : Option Jvm.ClassFile.FieldType)) ∈ UW := uw_t3 192 rfl rfl
theorem mw_673 : (Jvm.Cond.methodLink "MixerStation$State" (128 : Nat) ({ cls := "MixerStation$State", name := "turnSeason", desc := "()V" } : Jvm.MethodName)) ∈ UW := uw_t3 193 rfl rfl
theorem mw_674 : (Jvm.Cond.methodLink "MixerStation$State" (131 : Nat) ({ cls := "MixerStation$State", name := "runBoiler", desc := "()V" } : Jvm.MethodName)) ∈ UW := uw_t3 194 rfl rfl
theorem mw_675 : (Jvm.Cond.methodLink "MixerStation$State" (134 : Nat) ({ cls := "MixerStation$State", name := "moveValve", desc := "()V" } : Jvm.MethodName)) ∈ UW := uw_t3 195 rfl rfl
theorem mw_676 : (Jvm.Cond.methodLink "MixerStation$State" (137 : Nat) ({ cls := "MixerStation$State", name := "mix", desc := "()V" } : Jvm.MethodName)) ∈ UW := uw_t3 196 rfl rfl
theorem mw_678 : (Jvm.Cond.instanceMethod ({ cls := "MixerStation$State", name := "mix", desc := "()V" } : Jvm.MethodName)) ∈ UW := uw_t3 198 rfl rfl
theorem mw_679 : (Jvm.Cond.code ({ cls := "MixerStation$State", name := "mix", desc := "()V" } : Jvm.MethodName) prog_5_method_29_code (2 : Nat) (Option.none : Option Jvm.ClassFile.FieldType)) ∈ UW := uw_t3 199 rfl rfl
theorem mw_680 : (Jvm.Cond.methodLink "MixerStation$State" (140 : Nat) ({ cls := "MixerStation$State", name := "heatRooms", desc := "()V" } : Jvm.MethodName)) ∈ UW := uw_t3 200 rfl rfl
theorem mw_682 : (Jvm.Cond.instanceMethod ({ cls := "MixerStation$State", name := "heatRooms", desc := "()V" } : Jvm.MethodName)) ∈ UW := uw_t3 202 rfl rfl
theorem mw_683 : (Jvm.Cond.code ({ cls := "MixerStation$State", name := "heatRooms", desc := "()V" } : Jvm.MethodName) prog_5_method_30_code (4 : Nat) (Option.none : Option Jvm.ClassFile.FieldType)) ∈ UW := uw_t3 203 rfl rfl
theorem mw_684 : (Jvm.Cond.methodLink "MixerStation$State" (143 : Nat) ({ cls := "MixerStation$State", name := "leakRooms", desc := "()V" } : Jvm.MethodName)) ∈ UW := uw_t3 204 rfl rfl
theorem mw_686 : (Jvm.Cond.instanceMethod ({ cls := "MixerStation$State", name := "leakRooms", desc := "()V" } : Jvm.MethodName)) ∈ UW := uw_t3 206 rfl rfl
theorem mw_687 : (Jvm.Cond.code ({ cls := "MixerStation$State", name := "leakRooms", desc := "()V" } : Jvm.MethodName) prog_5_method_31_code (4 : Nat) (Option.none : Option Jvm.ClassFile.FieldType)) ∈ UW := uw_t3 207 rfl rfl
theorem mw_688 : (Jvm.Cond.methodLink "MixerStation$State" (146 : Nat) ({ cls := "MixerStation$State", name := "judgeRooms", desc := "()V" } : Jvm.MethodName)) ∈ UW := uw_t3 208 rfl rfl
theorem mw_690 : (Jvm.Cond.instanceMethod ({ cls := "MixerStation$State", name := "judgeRooms", desc := "()V" } : Jvm.MethodName)) ∈ UW := uw_t3 210 rfl rfl
theorem mw_691 : (Jvm.Cond.code ({ cls := "MixerStation$State", name := "judgeRooms", desc := "()V" } : Jvm.MethodName) prog_5_method_32_code (2 : Nat) (Option.none : Option Jvm.ClassFile.FieldType)) ∈ UW := uw_t3 211 rfl rfl
theorem mw_692 : (Jvm.Cond.methodLink "MixerStation$State" (175 : Nat) ({ cls := "MixerStation$Room", name := "judge", desc := "(I)V" } : Jvm.MethodName)) ∈ UW := uw_t3 212 rfl rfl
theorem mw_693 : (Jvm.Cond.instanceMethod ({ cls := "MixerStation$Room", name := "judge", desc := "(I)V" } : Jvm.MethodName)) ∈ UW := uw_t3 213 rfl rfl
theorem mw_694 : (Jvm.Cond.selects "MixerStation$Room" ({ cls := "MixerStation$Room", name := "judge", desc := "(I)V" } : Jvm.MethodName) ({ cls := "MixerStation$Room", name := "judge", desc := "(I)V" } : Jvm.MethodName)) ∈ UW := uw_t3 214 rfl rfl
theorem mw_695 : (Jvm.Cond.code ({ cls := "MixerStation$Room", name := "judge", desc := "(I)V" } : Jvm.MethodName) prog_4_method_5_code (2 : Nat) (Option.none : Option Jvm.ClassFile.FieldType)) ∈ UW := uw_t3 215 rfl rfl
theorem mw_696 : (Jvm.Cond.methodLink "MixerStationLaw" (160 : Nat) ({ cls := "MixerStationLaw", name := "undo", desc := "(LMixerStation;[J)I" } : Jvm.MethodName)) ∈ UW := uw_t3 216 rfl rfl
theorem mw_697 : (Jvm.Cond.static ({ cls := "MixerStationLaw", name := "undo", desc := "(LMixerStation;[J)I" } : Jvm.MethodName)) ∈ UW := uw_t3 217 rfl rfl
theorem mw_698 : (Jvm.Cond.codeWith ({ cls := "MixerStationLaw", name := "undo", desc := "(LMixerStation;[J)I" } : Jvm.MethodName) method_17_code (3 : Nat) (Option.some Jvm.ClassFile.FieldType.int) [((0 : Nat), (8 : Nat), (11 : Nat), (15 : Nat))]) ∈ UW := uw_t3 218 rfl rfl
theorem mw_699 : (Jvm.Cond.methodLink "MixerStationLaw" (63 : Nat) ({ cls := "MixerStation", name := "undo", desc := "()I" } : Jvm.MethodName)) ∈ UW := uw_t3 219 rfl rfl
theorem mw_700 : (Jvm.Cond.instanceMethod ({ cls := "MixerStation", name := "undo", desc := "()I" } : Jvm.MethodName)) ∈ UW := uw_t3 220 rfl rfl
theorem mw_701 : (Jvm.Cond.selects "MixerStation" ({ cls := "MixerStation", name := "undo", desc := "()I" } : Jvm.MethodName) ({ cls := "MixerStation", name := "undo", desc := "()I" } : Jvm.MethodName)) ∈ UW := uw_t3 221 rfl rfl
theorem mw_702 : (Jvm.Cond.code ({ cls := "MixerStation", name := "undo", desc := "()I" } : Jvm.MethodName) prog_1_method_18_code (1 : Nat) (Option.some Jvm.ClassFile.FieldType.int)) ∈ UW := uw_t3 222 rfl rfl
theorem mw_703 : (Jvm.Cond.methodLink "MixerStation" (267 : Nat) ({ cls := "MixerStation$History", name := "isEmpty", desc := "()Z" } : Jvm.MethodName)) ∈ UW := uw_t3 223 rfl rfl
theorem mw_704 : (Jvm.Cond.instanceMethod ({ cls := "MixerStation$History", name := "isEmpty", desc := "()Z" } : Jvm.MethodName)) ∈ UW := uw_t3 224 rfl rfl
theorem mw_705 : (Jvm.Cond.selects "MixerStation$History" ({ cls := "MixerStation$History", name := "isEmpty", desc := "()Z" } : Jvm.MethodName) ({ cls := "MixerStation$History", name := "isEmpty", desc := "()Z" } : Jvm.MethodName)) ∈ UW := uw_t3 225 rfl rfl
theorem mw_706 : (Jvm.Cond.code ({ cls := "MixerStation$History", name := "isEmpty", desc := "()Z" } : Jvm.MethodName) prog_2_method_2_code (1 : Nat) (Option.some Jvm.ClassFile.FieldType.boolean)) ∈ UW := uw_t3 226 rfl rfl
theorem mw_708 : (Jvm.Cond.methodLink "MixerStation" (272 : Nat) ({ cls := "MixerStation$History", name := "takeBackInto", desc := "(LMixerStation$State;)V" } : Jvm.MethodName)) ∈ UW := uw_t3 228 rfl rfl
theorem mw_709 : (Jvm.Cond.instanceMethod ({ cls := "MixerStation$History", name := "takeBackInto", desc := "(LMixerStation$State;)V" } : Jvm.MethodName)) ∈ UW := uw_t3 229 rfl rfl
theorem mw_710 : (Jvm.Cond.selects "MixerStation$History" ({ cls := "MixerStation$History", name := "takeBackInto", desc := "(LMixerStation$State;)V" } : Jvm.MethodName) ({ cls := "MixerStation$History", name := "takeBackInto", desc := "(LMixerStation$State;)V" } : Jvm.MethodName)) ∈ UW := uw_t3 230 rfl rfl
theorem mw_711 : (Jvm.Cond.code ({ cls := "MixerStation$History", name := "takeBackInto", desc := "(LMixerStation$State;)V" } : Jvm.MethodName) prog_2_method_6_code (3 : Nat) (Option.none : Option Jvm.ClassFile.FieldType)) ∈ UW := uw_t3 231 rfl rfl
theorem mw_712 : (Jvm.Cond.methodLink "MixerStationLaw" (163 : Nat) ({ cls := "MixerStationLaw", name := "ahead", desc := "(LMixerStation;II[J)I" } : Jvm.MethodName)) ∈ UW := uw_t3 232 rfl rfl
theorem mw_713 : (Jvm.Cond.static ({ cls := "MixerStationLaw", name := "ahead", desc := "(LMixerStation;II[J)I" } : Jvm.MethodName)) ∈ UW := uw_t3 233 rfl rfl
theorem mw_714 : (Jvm.Cond.codeWith ({ cls := "MixerStationLaw", name := "ahead", desc := "(LMixerStation;II[J)I" } : Jvm.MethodName) method_18_code (5 : Nat) (Option.some Jvm.ClassFile.FieldType.int) [((0 : Nat), (10 : Nat), (13 : Nat), (31 : Nat)), ((0 : Nat), (10 : Nat), (17 : Nat), (13 : Nat))]) ∈ UW := uw_t3 234 rfl rfl
theorem mw_715 : (Jvm.Cond.methodLink "MixerStationLaw" (66 : Nat) ({ cls := "MixerStation", name := "ahead", desc := "(II)I" } : Jvm.MethodName)) ∈ UW := uw_t3 235 rfl rfl
theorem mw_716 : (Jvm.Cond.instanceMethod ({ cls := "MixerStation", name := "ahead", desc := "(II)I" } : Jvm.MethodName)) ∈ UW := uw_t3 236 rfl rfl
theorem mw_717 : (Jvm.Cond.selects "MixerStation" ({ cls := "MixerStation", name := "ahead", desc := "(II)I" } : Jvm.MethodName) ({ cls := "MixerStation", name := "ahead", desc := "(II)I" } : Jvm.MethodName)) ∈ UW := uw_t3 237 rfl rfl
theorem mw_718 : (Jvm.Cond.code ({ cls := "MixerStation", name := "ahead", desc := "(II)I" } : Jvm.MethodName) prog_1_method_19_code (3 : Nat) (Option.some Jvm.ClassFile.FieldType.int)) ∈ UW := uw_t3 238 rfl rfl
theorem mw_720 : (Jvm.Cond.methodLink "MixerStationLaw" (166 : Nat) ({ cls := "MixerStationLaw", name := "minutesTo", desc := "(LMixerStation;I[J)I" } : Jvm.MethodName)) ∈ UW := uw_t4 0 rfl rfl
theorem mw_721 : (Jvm.Cond.static ({ cls := "MixerStationLaw", name := "minutesTo", desc := "(LMixerStation;I[J)I" } : Jvm.MethodName)) ∈ UW := uw_t4 1 rfl rfl
theorem mw_722 : (Jvm.Cond.codeWith ({ cls := "MixerStationLaw", name := "minutesTo", desc := "(LMixerStation;I[J)I" } : Jvm.MethodName) method_19_code (4 : Nat) (Option.some Jvm.ClassFile.FieldType.int) [((0 : Nat), (9 : Nat), (12 : Nat), (31 : Nat))]) ∈ UW := uw_t4 2 rfl rfl
theorem mw_723 : (Jvm.Cond.methodLink "MixerStationLaw" (69 : Nat) ({ cls := "MixerStation", name := "minutesTo", desc := "(I)I" } : Jvm.MethodName)) ∈ UW := uw_t4 3 rfl rfl
theorem mw_724 : (Jvm.Cond.instanceMethod ({ cls := "MixerStation", name := "minutesTo", desc := "(I)I" } : Jvm.MethodName)) ∈ UW := uw_t4 4 rfl rfl
theorem mw_725 : (Jvm.Cond.selects "MixerStation" ({ cls := "MixerStation", name := "minutesTo", desc := "(I)I" } : Jvm.MethodName) ({ cls := "MixerStation", name := "minutesTo", desc := "(I)I" } : Jvm.MethodName)) ∈ UW := uw_t4 5 rfl rfl
theorem mw_726 : (Jvm.Cond.code ({ cls := "MixerStation", name := "minutesTo", desc := "(I)I" } : Jvm.MethodName) prog_1_method_20_code (3 : Nat) (Option.some Jvm.ClassFile.FieldType.int)) ∈ UW := uw_t4 6 rfl rfl
theorem mw_727 : (Jvm.Cond.methodLink "MixerStation" (278 : Nat) ({ cls := "MixerStation$State", name := "isAsWarmAsWanted", desc := "(I)Z" } : Jvm.MethodName)) ∈ UW := uw_t4 7 rfl rfl
theorem mw_728 : (Jvm.Cond.instanceMethod ({ cls := "MixerStation$State", name := "isAsWarmAsWanted", desc := "(I)Z" } : Jvm.MethodName)) ∈ UW := uw_t4 8 rfl rfl
theorem mw_729 : (Jvm.Cond.selects "MixerStation$State" ({ cls := "MixerStation$State", name := "isAsWarmAsWanted", desc := "(I)Z" } : Jvm.MethodName) ({ cls := "MixerStation$State", name := "isAsWarmAsWanted", desc := "(I)Z" } : Jvm.MethodName)) ∈ UW := uw_t4 9 rfl rfl
theorem mw_730 : (Jvm.Cond.code ({ cls := "MixerStation$State", name := "isAsWarmAsWanted", desc := "(I)Z" } : Jvm.MethodName) prog_5_method_18_code (2 : Nat) (Option.some Jvm.ClassFile.FieldType.boolean)) ∈ UW := uw_t4 10 rfl rfl
theorem mw_731 : (Jvm.Cond.methodLink "MixerStationLaw" (177 : Nat) ({ cls := "MixerStationLaw", name := "bestSlope", desc := "(LMixerStation;I[J)I" } : Jvm.MethodName)) ∈ UW := uw_t4 11 rfl rfl
theorem mw_732 : (Jvm.Cond.static ({ cls := "MixerStationLaw", name := "bestSlope", desc := "(LMixerStation;I[J)I" } : Jvm.MethodName)) ∈ UW := uw_t4 12 rfl rfl
theorem mw_733 : (Jvm.Cond.codeWith ({ cls := "MixerStationLaw", name := "bestSlope", desc := "(LMixerStation;I[J)I" } : Jvm.MethodName) method_20_code (4 : Nat) (Option.some Jvm.ClassFile.FieldType.int) [((0 : Nat), (9 : Nat), (12 : Nat), (13 : Nat))]) ∈ UW := uw_t4 13 rfl rfl
theorem mw_734 : (Jvm.Cond.methodLink "MixerStationLaw" (72 : Nat) ({ cls := "MixerStation", name := "bestSlope", desc := "(I)I" } : Jvm.MethodName)) ∈ UW := uw_t4 14 rfl rfl
theorem mw_735 : (Jvm.Cond.instanceMethod ({ cls := "MixerStation", name := "bestSlope", desc := "(I)I" } : Jvm.MethodName)) ∈ UW := uw_t4 15 rfl rfl
theorem mw_736 : (Jvm.Cond.selects "MixerStation" ({ cls := "MixerStation", name := "bestSlope", desc := "(I)I" } : Jvm.MethodName) ({ cls := "MixerStation", name := "bestSlope", desc := "(I)I" } : Jvm.MethodName)) ∈ UW := uw_t4 16 rfl rfl
theorem mw_737 : (Jvm.Cond.code ({ cls := "MixerStation", name := "bestSlope", desc := "(I)I" } : Jvm.MethodName) prog_1_method_23_code (6 : Nat) (Option.some Jvm.ClassFile.FieldType.int)) ∈ UW := uw_t4 17 rfl rfl
theorem mw_739 : (Jvm.Cond.methodLink "MixerStationLaw" (180 : Nat) ({ cls := "MixerStationLaw", name := "leastPower", desc := "(LMixerStation;I[J)I" } : Jvm.MethodName)) ∈ UW := uw_t4 19 rfl rfl
theorem mw_740 : (Jvm.Cond.static ({ cls := "MixerStationLaw", name := "leastPower", desc := "(LMixerStation;I[J)I" } : Jvm.MethodName)) ∈ UW := uw_t4 20 rfl rfl
theorem mw_741 : (Jvm.Cond.codeWith ({ cls := "MixerStationLaw", name := "leastPower", desc := "(LMixerStation;I[J)I" } : Jvm.MethodName) method_21_code (4 : Nat) (Option.some Jvm.ClassFile.FieldType.int) [((0 : Nat), (9 : Nat), (12 : Nat), (13 : Nat))]) ∈ UW := uw_t4 21 rfl rfl
theorem mw_742 : (Jvm.Cond.methodLink "MixerStationLaw" (75 : Nat) ({ cls := "MixerStation", name := "leastPower", desc := "(I)I" } : Jvm.MethodName)) ∈ UW := uw_t4 22 rfl rfl
theorem mw_743 : (Jvm.Cond.instanceMethod ({ cls := "MixerStation", name := "leastPower", desc := "(I)I" } : Jvm.MethodName)) ∈ UW := uw_t4 23 rfl rfl
theorem mw_744 : (Jvm.Cond.selects "MixerStation" ({ cls := "MixerStation", name := "leastPower", desc := "(I)I" } : Jvm.MethodName) ({ cls := "MixerStation", name := "leastPower", desc := "(I)I" } : Jvm.MethodName)) ∈ UW := uw_t4 24 rfl rfl
theorem mw_745 : (Jvm.Cond.code ({ cls := "MixerStation", name := "leastPower", desc := "(I)I" } : Jvm.MethodName) prog_1_method_24_code (3 : Nat) (Option.some Jvm.ClassFile.FieldType.int)) ∈ UW := uw_t4 25 rfl rfl
theorem mw_746 : (Jvm.Cond.methodLink "MixerStation" (304 : Nat) ({ cls := "MixerStation", name := "allRoomsGetWarm", desc := "(LMixerStation$State;I)Z" } : Jvm.MethodName)) ∈ UW := uw_t4 26 rfl rfl
theorem mw_747 : (Jvm.Cond.static ({ cls := "MixerStation", name := "allRoomsGetWarm", desc := "(LMixerStation$State;I)Z" } : Jvm.MethodName)) ∈ UW := uw_t4 27 rfl rfl
theorem mw_748 : (Jvm.Cond.code ({ cls := "MixerStation", name := "allRoomsGetWarm", desc := "(LMixerStation$State;I)Z" } : Jvm.MethodName) prog_1_method_39_code (5 : Nat) (Option.some Jvm.ClassFile.FieldType.boolean)) ∈ UW := uw_t4 28 rfl rfl
theorem mw_749 : (Jvm.Cond.methodLink "MixerStation" (348 : Nat) ({ cls := "MixerStation$State", name := "warmRooms", desc := "()I" } : Jvm.MethodName)) ∈ UW := uw_t4 29 rfl rfl
theorem mw_750 : (Jvm.Cond.instanceMethod ({ cls := "MixerStation$State", name := "warmRooms", desc := "()I" } : Jvm.MethodName)) ∈ UW := uw_t4 30 rfl rfl
theorem mw_751 : (Jvm.Cond.selects "MixerStation$State" ({ cls := "MixerStation$State", name := "warmRooms", desc := "()I" } : Jvm.MethodName) ({ cls := "MixerStation$State", name := "warmRooms", desc := "()I" } : Jvm.MethodName)) ∈ UW := uw_t4 31 rfl rfl
theorem mw_752 : (Jvm.Cond.code ({ cls := "MixerStation$State", name := "warmRooms", desc := "()I" } : Jvm.MethodName) prog_5_method_19_code (3 : Nat) (Option.some Jvm.ClassFile.FieldType.int)) ∈ UW := uw_t4 32 rfl rfl
theorem mw_753 : (Jvm.Cond.methodLink "MixerStation$State" (119 : Nat) ({ cls := "MixerStation$State", name := "isAsWarmAsWanted", desc := "(I)Z" } : Jvm.MethodName)) ∈ UW := uw_t4 33 rfl rfl
theorem mw_754 : (Jvm.Cond.methodLink "MixerStationLaw" (183 : Nat) ({ cls := "MixerStationLaw", name := "heatFor", desc := "(LMixerStation;I[J)I" } : Jvm.MethodName)) ∈ UW := uw_t4 34 rfl rfl
theorem mw_755 : (Jvm.Cond.static ({ cls := "MixerStationLaw", name := "heatFor", desc := "(LMixerStation;I[J)I" } : Jvm.MethodName)) ∈ UW := uw_t4 35 rfl rfl
theorem mw_756 : (Jvm.Cond.codeWith ({ cls := "MixerStationLaw", name := "heatFor", desc := "(LMixerStation;I[J)I" } : Jvm.MethodName) method_22_code (4 : Nat) (Option.some Jvm.ClassFile.FieldType.int) [((0 : Nat), (9 : Nat), (12 : Nat), (13 : Nat))]) ∈ UW := uw_t4 36 rfl rfl
theorem mw_757 : (Jvm.Cond.methodLink "MixerStationLaw" (78 : Nat) ({ cls := "MixerStation", name := "heatFor", desc := "(I)I" } : Jvm.MethodName)) ∈ UW := uw_t4 37 rfl rfl
theorem mw_758 : (Jvm.Cond.instanceMethod ({ cls := "MixerStation", name := "heatFor", desc := "(I)I" } : Jvm.MethodName)) ∈ UW := uw_t4 38 rfl rfl
theorem mw_759 : (Jvm.Cond.selects "MixerStation" ({ cls := "MixerStation", name := "heatFor", desc := "(I)I" } : Jvm.MethodName) ({ cls := "MixerStation", name := "heatFor", desc := "(I)I" } : Jvm.MethodName)) ∈ UW := uw_t4 39 rfl rfl
theorem mw_760 : (Jvm.Cond.code ({ cls := "MixerStation", name := "heatFor", desc := "(I)I" } : Jvm.MethodName) prog_1_method_25_code (2 : Nat) (Option.some Jvm.ClassFile.FieldType.int)) ∈ UW := uw_t4 40 rfl rfl
theorem mw_761 : (Jvm.Cond.methodLink "MixerStation" (308 : Nat) ({ cls := "MixerStation$State", name := "heatMade", desc := "()I" } : Jvm.MethodName)) ∈ UW := uw_t4 41 rfl rfl
theorem mw_762 : (Jvm.Cond.instanceMethod ({ cls := "MixerStation$State", name := "heatMade", desc := "()I" } : Jvm.MethodName)) ∈ UW := uw_t4 42 rfl rfl
theorem mw_763 : (Jvm.Cond.selects "MixerStation$State" ({ cls := "MixerStation$State", name := "heatMade", desc := "()I" } : Jvm.MethodName) ({ cls := "MixerStation$State", name := "heatMade", desc := "()I" } : Jvm.MethodName)) ∈ UW := uw_t4 43 rfl rfl
theorem mw_764 : (Jvm.Cond.code ({ cls := "MixerStation$State", name := "heatMade", desc := "()I" } : Jvm.MethodName) prog_5_method_17_code (1 : Nat) (Option.some Jvm.ClassFile.FieldType.int)) ∈ UW := uw_t4 44 rfl rfl
theorem mw_765 : (Jvm.Cond.methodLink "MixerStation$State" (109 : Nat) ({ cls := "MixerStation$Ledger", name := "sumBetween", desc := "(II)I" } : Jvm.MethodName)) ∈ UW := uw_t4 45 rfl rfl
theorem mw_766 : (Jvm.Cond.methodLink "MixerStationLaw" (188 : Nat) ({ cls := "MixerStationLaw", name := "runScript", desc := "(LMixerStation;IJ[J)I" } : Jvm.MethodName)) ∈ UW := uw_t4 46 rfl rfl
theorem mw_767 : (Jvm.Cond.static ({ cls := "MixerStationLaw", name := "runScript", desc := "(LMixerStation;IJ[J)I" } : Jvm.MethodName)) ∈ UW := uw_t4 47 rfl rfl
theorem mw_768 : (Jvm.Cond.codeWith ({ cls := "MixerStationLaw", name := "runScript", desc := "(LMixerStation;IJ[J)I" } : Jvm.MethodName) method_23_code (6 : Nat) (Option.some Jvm.ClassFile.FieldType.int) [((0 : Nat), (11 : Nat), (14 : Nat), (13 : Nat))]) ∈ UW := uw_t4 48 rfl rfl
theorem mw_769 : (Jvm.Cond.methodLink "MixerStationLaw" (81 : Nat) ({ cls := "MixerStation", name := "runScript", desc := "(IJ)I" } : Jvm.MethodName)) ∈ UW := uw_t4 49 rfl rfl
theorem mw_770 : (Jvm.Cond.instanceMethod ({ cls := "MixerStation", name := "runScript", desc := "(IJ)I" } : Jvm.MethodName)) ∈ UW := uw_t4 50 rfl rfl
theorem mw_771 : (Jvm.Cond.selects "MixerStation" ({ cls := "MixerStation", name := "runScript", desc := "(IJ)I" } : Jvm.MethodName) ({ cls := "MixerStation", name := "runScript", desc := "(IJ)I" } : Jvm.MethodName)) ∈ UW := uw_t4 51 rfl rfl
theorem mw_772 : (Jvm.Cond.code ({ cls := "MixerStation", name := "runScript", desc := "(IJ)I" } : Jvm.MethodName) prog_1_method_26_code (5 : Nat) (Option.some Jvm.ClassFile.FieldType.int)) ∈ UW := uw_t4 52 rfl rfl
theorem mw_774 : (Jvm.Cond.methodLink "MixerStation" (313 : Nat) ({ cls := "MixerStation", name := "longestScript", desc := "(I)J" } : Jvm.MethodName)) ∈ UW := uw_t4 54 rfl rfl
theorem mw_775 : (Jvm.Cond.static ({ cls := "MixerStation", name := "longestScript", desc := "(I)J" } : Jvm.MethodName)) ∈ UW := uw_t4 55 rfl rfl
theorem mw_776 : (Jvm.Cond.code ({ cls := "MixerStation", name := "longestScript", desc := "(I)J" } : Jvm.MethodName) prog_1_method_40_code (4 : Nat) (Option.some Jvm.ClassFile.FieldType.long)) ∈ UW := uw_t4 56 rfl rfl
theorem mw_777 : (Jvm.Cond.constantLong "MixerStation" (351 : Nat) (10000 : Int64)) ∈ UW := uw_t4 57 rfl rfl
theorem mw_779 : (Jvm.Cond.methodLink "MixerStation" (319 : Nat) ({ cls := "MixerStation", name := "groupAt", desc := "(IJI)I" } : Jvm.MethodName)) ∈ UW := uw_t4 59 rfl rfl
theorem mw_780 : (Jvm.Cond.static ({ cls := "MixerStation", name := "groupAt", desc := "(IJI)I" } : Jvm.MethodName)) ∈ UW := uw_t4 60 rfl rfl
theorem mw_781 : (Jvm.Cond.code ({ cls := "MixerStation", name := "groupAt", desc := "(IJI)I" } : Jvm.MethodName) prog_1_method_41_code (7 : Nat) (Option.some Jvm.ClassFile.FieldType.int)) ∈ UW := uw_t4 61 rfl rfl
theorem mw_782 : (Jvm.Cond.methodLink "MixerStation" (323 : Nat) ({ cls := "MixerStation", name := "commandSucceeds", desc := "(LMixerStation$State;I)Z" } : Jvm.MethodName)) ∈ UW := uw_t4 62 rfl rfl
theorem mw_783 : (Jvm.Cond.static ({ cls := "MixerStation", name := "commandSucceeds", desc := "(LMixerStation$State;I)Z" } : Jvm.MethodName)) ∈ UW := uw_t4 63 rfl rfl
theorem mw_784 : (Jvm.Cond.code ({ cls := "MixerStation", name := "commandSucceeds", desc := "(LMixerStation$State;I)Z" } : Jvm.MethodName) prog_1_method_42_code (5 : Nat) (Option.some Jvm.ClassFile.FieldType.boolean)) ∈ UW := uw_t4 64 rfl rfl
theorem mw_785 : (Jvm.Cond.methodLink "MixerStation" (353 : Nat) ({ cls := "MixerStation", name := "outsideCommand", desc := "(LMixerStation$State;I)Z" } : Jvm.MethodName)) ∈ UW := uw_t4 65 rfl rfl
theorem mw_786 : (Jvm.Cond.static ({ cls := "MixerStation", name := "outsideCommand", desc := "(LMixerStation$State;I)Z" } : Jvm.MethodName)) ∈ UW := uw_t4 66 rfl rfl
theorem mw_787 : (Jvm.Cond.code ({ cls := "MixerStation", name := "outsideCommand", desc := "(LMixerStation$State;I)Z" } : Jvm.MethodName) prog_1_method_43_code (2 : Nat) (Option.some Jvm.ClassFile.FieldType.boolean)) ∈ UW := uw_t4 67 rfl rfl
theorem mw_788 : (Jvm.Cond.methodLink "MixerStation" (356 : Nat) ({ cls := "MixerStation", name := "settingCommand", desc := "(LMixerStation$State;II)Z" } : Jvm.MethodName)) ∈ UW := uw_t4 68 rfl rfl
theorem mw_789 : (Jvm.Cond.static ({ cls := "MixerStation", name := "settingCommand", desc := "(LMixerStation$State;II)Z" } : Jvm.MethodName)) ∈ UW := uw_t4 69 rfl rfl
theorem mw_790 : (Jvm.Cond.code ({ cls := "MixerStation", name := "settingCommand", desc := "(LMixerStation$State;II)Z" } : Jvm.MethodName) prog_1_method_44_code (3 : Nat) (Option.some Jvm.ClassFile.FieldType.boolean)) ∈ UW := uw_t4 70 rfl rfl
theorem mw_791 : (Jvm.Cond.methodLink "MixerStation" (360 : Nat) ({ cls := "MixerStation", name := "windowCommand", desc := "(LMixerStation$State;IZ)Z" } : Jvm.MethodName)) ∈ UW := uw_t4 71 rfl rfl
theorem mw_792 : (Jvm.Cond.static ({ cls := "MixerStation", name := "windowCommand", desc := "(LMixerStation$State;IZ)Z" } : Jvm.MethodName)) ∈ UW := uw_t4 72 rfl rfl
theorem mw_793 : (Jvm.Cond.code ({ cls := "MixerStation", name := "windowCommand", desc := "(LMixerStation$State;IZ)Z" } : Jvm.MethodName) prog_1_method_45_code (3 : Nat) (Option.some Jvm.ClassFile.FieldType.boolean)) ∈ UW := uw_t4 73 rfl rfl
theorem mw_794 : (Jvm.Cond.methodLink "MixerStation" (332 : Nat) ({ cls := "MixerStation$State", name := "turnWindow", desc := "(IZ)V" } : Jvm.MethodName)) ∈ UW := uw_t4 74 rfl rfl
theorem mw_795 : (Jvm.Cond.instanceMethod ({ cls := "MixerStation$State", name := "turnWindow", desc := "(IZ)V" } : Jvm.MethodName)) ∈ UW := uw_t4 75 rfl rfl
theorem mw_796 : (Jvm.Cond.selects "MixerStation$State" ({ cls := "MixerStation$State", name := "turnWindow", desc := "(IZ)V" } : Jvm.MethodName) ({ cls := "MixerStation$State", name := "turnWindow", desc := "(IZ)V" } : Jvm.MethodName)) ∈ UW := uw_t4 76 rfl rfl
theorem mw_797 : (Jvm.Cond.code ({ cls := "MixerStation$State", name := "turnWindow", desc := "(IZ)V" } : Jvm.MethodName) prog_5_method_9_code (3 : Nat) (Option.none : Option Jvm.ClassFile.FieldType)) ∈ UW := uw_t4 77 rfl rfl
theorem mw_798 : (Jvm.Cond.methodLink "MixerStation" (364 : Nat) ({ cls := "MixerStation", name := "wantedCommand", desc := "(LMixerStation$State;II)Z" } : Jvm.MethodName)) ∈ UW := uw_t4 78 rfl rfl
theorem mw_799 : (Jvm.Cond.static ({ cls := "MixerStation", name := "wantedCommand", desc := "(LMixerStation$State;II)Z" } : Jvm.MethodName)) ∈ UW := uw_t4 79 rfl rfl
theorem mw_800 : (Jvm.Cond.code ({ cls := "MixerStation", name := "wantedCommand", desc := "(LMixerStation$State;II)Z" } : Jvm.MethodName) prog_1_method_46_code (3 : Nat) (Option.some Jvm.ClassFile.FieldType.boolean)) ∈ UW := uw_t4 80 rfl rfl
theorem mw_801 : (Jvm.Cond.methodLink "MixerStationLaw" (192 : Nat) ({ cls := "MixerStationLaw", name := "simulate", desc := "(LMixerStation;JI[J)I" } : Jvm.MethodName)) ∈ UW := uw_t4 81 rfl rfl
theorem mw_802 : (Jvm.Cond.static ({ cls := "MixerStationLaw", name := "simulate", desc := "(LMixerStation;JI[J)I" } : Jvm.MethodName)) ∈ UW := uw_t4 82 rfl rfl
theorem mw_803 : (Jvm.Cond.codeWith ({ cls := "MixerStationLaw", name := "simulate", desc := "(LMixerStation;JI[J)I" } : Jvm.MethodName) method_24_code (6 : Nat) (Option.some Jvm.ClassFile.FieldType.int) [((0 : Nat), (10 : Nat), (13 : Nat), (13 : Nat))]) ∈ UW := uw_t4 83 rfl rfl
theorem mw_804 : (Jvm.Cond.methodLink "MixerStationLaw" (85 : Nat) ({ cls := "MixerStation", name := "simulate", desc := "(JI)J" } : Jvm.MethodName)) ∈ UW := uw_t4 84 rfl rfl
theorem mw_805 : (Jvm.Cond.instanceMethod ({ cls := "MixerStation", name := "simulate", desc := "(JI)J" } : Jvm.MethodName)) ∈ UW := uw_t4 85 rfl rfl
theorem mw_806 : (Jvm.Cond.selects "MixerStation" ({ cls := "MixerStation", name := "simulate", desc := "(JI)J" } : Jvm.MethodName) ({ cls := "MixerStation", name := "simulate", desc := "(JI)J" } : Jvm.MethodName)) ∈ UW := uw_t4 86 rfl rfl
theorem mw_807 : (Jvm.Cond.code ({ cls := "MixerStation", name := "simulate", desc := "(JI)J" } : Jvm.MethodName) prog_1_method_27_code (8 : Nat) (Option.some Jvm.ClassFile.FieldType.long)) ∈ UW := uw_t4 87 rfl rfl
theorem mw_809 : (Jvm.Cond.constantLong "MixerStation" (328 : Nat) (6364136223846793005 : Int64)) ∈ UW := uw_t4 89 rfl rfl
theorem mw_810 : (Jvm.Cond.constantLong "MixerStation" (330 : Nat) (1442695040888963407 : Int64)) ∈ UW := uw_t4 90 rfl rfl
theorem mw_811 : (Jvm.Cond.constantLong "MixerStation" (336 : Nat) (1000000 : Int64)) ∈ UW := uw_t4 91 rfl rfl
theorem mw_812 : (Jvm.Cond.methodLink "MixerStationLaw" (196 : Nat) ({ cls := "MixerStationLaw", name := "save", desc := "(LMixerStation;I[J)I" } : Jvm.MethodName)) ∈ UW := uw_t4 92 rfl rfl
theorem mw_813 : (Jvm.Cond.static ({ cls := "MixerStationLaw", name := "save", desc := "(LMixerStation;I[J)I" } : Jvm.MethodName)) ∈ UW := uw_t4 93 rfl rfl
theorem mw_814 : (Jvm.Cond.codeWith ({ cls := "MixerStationLaw", name := "save", desc := "(LMixerStation;I[J)I" } : Jvm.MethodName) method_25_code (4 : Nat) (Option.some Jvm.ClassFile.FieldType.int) [((0 : Nat), (9 : Nat), (12 : Nat), (31 : Nat))]) ∈ UW := uw_t4 94 rfl rfl
theorem mw_815 : (Jvm.Cond.methodLink "MixerStationLaw" (89 : Nat) ({ cls := "MixerStation", name := "save", desc := "(I)I" } : Jvm.MethodName)) ∈ UW := uw_t4 95 rfl rfl
theorem mw_816 : (Jvm.Cond.instanceMethod ({ cls := "MixerStation", name := "save", desc := "(I)I" } : Jvm.MethodName)) ∈ UW := uw_t4 96 rfl rfl
theorem mw_817 : (Jvm.Cond.selects "MixerStation" ({ cls := "MixerStation", name := "save", desc := "(I)I" } : Jvm.MethodName) ({ cls := "MixerStation", name := "save", desc := "(I)I" } : Jvm.MethodName)) ∈ UW := uw_t4 97 rfl rfl
theorem mw_818 : (Jvm.Cond.code ({ cls := "MixerStation", name := "save", desc := "(I)I" } : Jvm.MethodName) prog_1_method_28_code (2 : Nat) (Option.some Jvm.ClassFile.FieldType.int)) ∈ UW := uw_t4 98 rfl rfl
theorem mw_820 : (Jvm.Cond.methodLink "MixerStationLaw" (199 : Nat) ({ cls := "MixerStationLaw", name := "restore", desc := "(LMixerStation;I[J)I" } : Jvm.MethodName)) ∈ UW := uw_t4 100 rfl rfl
theorem mw_821 : (Jvm.Cond.static ({ cls := "MixerStationLaw", name := "restore", desc := "(LMixerStation;I[J)I" } : Jvm.MethodName)) ∈ UW := uw_t4 101 rfl rfl
theorem mw_822 : (Jvm.Cond.codeWith ({ cls := "MixerStationLaw", name := "restore", desc := "(LMixerStation;I[J)I" } : Jvm.MethodName) method_26_code (4 : Nat) (Option.some Jvm.ClassFile.FieldType.int) [((0 : Nat), (9 : Nat), (12 : Nat), (31 : Nat)), ((0 : Nat), (9 : Nat), (15 : Nat), (15 : Nat))]) ∈ UW := uw_t4 102 rfl rfl
theorem mw_823 : (Jvm.Cond.methodLink "MixerStationLaw" (92 : Nat) ({ cls := "MixerStation", name := "restore", desc := "(I)I" } : Jvm.MethodName)) ∈ UW := uw_t4 103 rfl rfl
theorem mw_824 : (Jvm.Cond.instanceMethod ({ cls := "MixerStation", name := "restore", desc := "(I)I" } : Jvm.MethodName)) ∈ UW := uw_t4 104 rfl rfl
theorem mw_825 : (Jvm.Cond.selects "MixerStation" ({ cls := "MixerStation", name := "restore", desc := "(I)I" } : Jvm.MethodName) ({ cls := "MixerStation", name := "restore", desc := "(I)I" } : Jvm.MethodName)) ∈ UW := uw_t4 105 rfl rfl
theorem mw_826 : (Jvm.Cond.code ({ cls := "MixerStation", name := "restore", desc := "(I)I" } : Jvm.MethodName) prog_1_method_29_code (2 : Nat) (Option.some Jvm.ClassFile.FieldType.int)) ∈ UW := uw_t4 106 rfl rfl
theorem mw_828 : (Jvm.Cond.classLink "MixerStationLaw" (96 : Nat) "MixerStationModel") ∈ UW := uw_t4 108 rfl rfl
theorem mw_829 : (Jvm.Cond.instantiable "MixerStationModel" (12 : Nat)) ∈ UW := uw_t4 109 rfl rfl
theorem mw_830 : (Jvm.Cond.methodLink "MixerStationLaw" (98 : Nat) ({ cls := "MixerStationModel", name := "<init>", desc := "()V" } : Jvm.MethodName)) ∈ UW := uw_t4 110 rfl rfl
theorem mw_831 : (Jvm.Cond.instanceMethod ({ cls := "MixerStationModel", name := "<init>", desc := "()V" } : Jvm.MethodName)) ∈ UW := uw_t4 111 rfl rfl
theorem mw_832 : (Jvm.Cond.code ({ cls := "MixerStationModel", name := "<init>", desc := "()V" } : Jvm.MethodName) prog_8_method_1_code (1 : Nat) (Option.none : Option Jvm.ClassFile.FieldType)) ∈ UW := uw_t4 112 rfl rfl
theorem mw_833 : (Jvm.Cond.methodLink "MixerStationModel" (1 : Nat) ({ cls := "java/lang/Object", name := "<init>", desc := "()V" } : Jvm.MethodName)) ∈ UW := uw_t4 113 rfl rfl
theorem mw_834 : (Jvm.Cond.methodLink "MixerStationModel" (32 : Nat) ({ cls := "MixerStationModel", name := "clean", desc := "([I)V" } : Jvm.MethodName)) ∈ UW := uw_t4 114 rfl rfl
theorem mw_835 : (Jvm.Cond.static ({ cls := "MixerStationModel", name := "clean", desc := "([I)V" } : Jvm.MethodName)) ∈ UW := uw_t4 115 rfl rfl
theorem mw_836 : (Jvm.Cond.code ({ cls := "MixerStationModel", name := "clean", desc := "([I)V" } : Jvm.MethodName) prog_8_method_10_code (2 : Nat) (Option.none : Option Jvm.ClassFile.FieldType)) ∈ UW := uw_t4 116 rfl rfl
theorem mw_837 : (Jvm.Cond.fieldLink "MixerStationModel" (36 : Nat) "MixerStationModel" "refusal" "I") ∈ UW := uw_t4 117 rfl rfl
theorem mw_838 : (Jvm.Cond.fieldLink "MixerStationModel" (7 : Nat) "MixerStationModel" "script" "[I") ∈ UW := uw_t4 118 rfl rfl
theorem mw_839 : (Jvm.Cond.fieldLink "MixerStationModel" (118 : Nat) "MixerStationModel" "scriptSize" "I") ∈ UW := uw_t4 119 rfl rfl
theorem mw_840 : (Jvm.Cond.fieldLink "MixerStationModel" (125 : Nat) "MixerStationModel" "spot" "I") ∈ UW := uw_t4 120 rfl rfl
theorem mw_841 : (Jvm.Cond.fieldLink "MixerStationModel" (128 : Nat) "MixerStationModel" "isGood" "Z") ∈ UW := uw_t4 121 rfl rfl
theorem mw_842 : (Jvm.Cond.fieldLink "MixerStationModel" (13 : Nat) "MixerStationModel" "read" "[I") ∈ UW := uw_t4 122 rfl rfl
theorem mw_843 : (Jvm.Cond.fieldLink "MixerStationModel" (16 : Nat) "MixerStationModel" "now" "[I") ∈ UW := uw_t4 123 rfl rfl
theorem mw_844 : (Jvm.Cond.fieldLink "MixerStationModel" (19 : Nat) "MixerStationModel" "trial" "[I") ∈ UW := uw_t4 124 rfl rfl
theorem mw_845 : (Jvm.Cond.fieldLink "MixerStationModel" (22 : Nat) "MixerStationModel" "diary" "[I") ∈ UW := uw_t4 125 rfl rfl
theorem mw_846 : (Jvm.Cond.fieldLink "MixerStationModel" (42 : Nat) "MixerStationModel" "acts" "I") ∈ UW := uw_t4 126 rfl rfl
theorem mw_847 : (Jvm.Cond.fieldLink "MixerStationModel" (25 : Nat) "MixerStationModel" "kept" "[I") ∈ UW := uw_t4 127 rfl rfl
theorem mw_848 : (Jvm.Cond.fieldLink "MixerStationModel" (28 : Nat) "MixerStationModel" "isKept" "[Z") ∈ UW := uw_t4 128 rfl rfl
theorem mw_849 : (Jvm.Cond.lays "MixerStationModel" "MixerStationModel" "refusal" "I") ∈ UW := uw_t4 129 rfl rfl
theorem mw_851 : (Jvm.Cond.laysFinal "MixerStationModel" "MixerStationModel" "script" "[I") ∈ UW := uw_t4 131 rfl rfl
theorem mw_853 : (Jvm.Cond.lays "MixerStationModel" "MixerStationModel" "scriptSize" "I") ∈ UW := uw_t4 133 rfl rfl
theorem mw_855 : (Jvm.Cond.lays "MixerStationModel" "MixerStationModel" "spot" "I") ∈ UW := uw_t4 135 rfl rfl
theorem mw_857 : (Jvm.Cond.lays "MixerStationModel" "MixerStationModel" "isGood" "Z") ∈ UW := uw_t4 137 rfl rfl
theorem mw_859 : (Jvm.Cond.laysFinal "MixerStationModel" "MixerStationModel" "read" "[I") ∈ UW := uw_t4 139 rfl rfl
theorem mw_861 : (Jvm.Cond.laysFinal "MixerStationModel" "MixerStationModel" "now" "[I") ∈ UW := uw_t4 141 rfl rfl
theorem mw_863 : (Jvm.Cond.laysFinal "MixerStationModel" "MixerStationModel" "trial" "[I") ∈ UW := uw_t4 143 rfl rfl
theorem mw_865 : (Jvm.Cond.laysFinal "MixerStationModel" "MixerStationModel" "diary" "[I") ∈ UW := uw_t4 145 rfl rfl
theorem mw_867 : (Jvm.Cond.lays "MixerStationModel" "MixerStationModel" "acts" "I") ∈ UW := uw_t4 147 rfl rfl
theorem mw_869 : (Jvm.Cond.laysFinal "MixerStationModel" "MixerStationModel" "kept" "[I") ∈ UW := uw_t4 149 rfl rfl
theorem mw_871 : (Jvm.Cond.laysFinal "MixerStationModel" "MixerStationModel" "isKept" "[Z") ∈ UW := uw_t4 151 rfl rfl
theorem mw_874 : (Jvm.Cond.methodLink "MixerStationLaw" (105 : Nat) ({ cls := "MixerStationModel", name := "thrown", desc := "()I" } : Jvm.MethodName)) ∈ UW := uw_t4 154 rfl rfl
theorem mw_875 : (Jvm.Cond.instanceMethod ({ cls := "MixerStationModel", name := "thrown", desc := "()I" } : Jvm.MethodName)) ∈ UW := uw_t4 155 rfl rfl
theorem mw_876 : (Jvm.Cond.selects "MixerStationModel" ({ cls := "MixerStationModel", name := "thrown", desc := "()I" } : Jvm.MethodName) ({ cls := "MixerStationModel", name := "thrown", desc := "()I" } : Jvm.MethodName)) ∈ UW := uw_t4 156 rfl rfl
theorem mw_877 : (Jvm.Cond.code ({ cls := "MixerStationModel", name := "thrown", desc := "()I" } : Jvm.MethodName) prog_8_method_2_code (1 : Nat) (Option.some Jvm.ClassFile.FieldType.int)) ∈ UW := uw_t4 157 rfl rfl
theorem mw_878 : (Jvm.Cond.methodLink "MixerStationLaw" (104 : Nat) ({ cls := "MixerStationModel", name := "append", desc := "(I)I" } : Jvm.MethodName)) ∈ UW := uw_t4 158 rfl rfl
theorem mw_879 : (Jvm.Cond.instanceMethod ({ cls := "MixerStationModel", name := "append", desc := "(I)I" } : Jvm.MethodName)) ∈ UW := uw_t4 159 rfl rfl
theorem mw_880 : (Jvm.Cond.selects "MixerStationModel" ({ cls := "MixerStationModel", name := "append", desc := "(I)I" } : Jvm.MethodName) ({ cls := "MixerStationModel", name := "append", desc := "(I)I" } : Jvm.MethodName)) ∈ UW := uw_t4 160 rfl rfl
theorem mw_881 : (Jvm.Cond.code ({ cls := "MixerStationModel", name := "append", desc := "(I)I" } : Jvm.MethodName) prog_8_method_35_code (2 : Nat) (Option.some Jvm.ClassFile.FieldType.int)) ∈ UW := uw_t4 161 rfl rfl
theorem mw_882 : (Jvm.Cond.constantLong "MixerStationModel" (116 : Nat) (255 : Int64)) ∈ UW := uw_t4 162 rfl rfl
theorem mw_883 : (Jvm.Cond.methodLink "MixerStationModel" (49 : Nat) ({ cls := "MixerStationModel", name := "in", desc := "(JJJ)Z" } : Jvm.MethodName)) ∈ UW := uw_t4 163 rfl rfl
theorem mw_884 : (Jvm.Cond.static ({ cls := "MixerStationModel", name := "in", desc := "(JJJ)Z" } : Jvm.MethodName)) ∈ UW := uw_t4 164 rfl rfl
theorem mw_885 : (Jvm.Cond.code ({ cls := "MixerStationModel", name := "in", desc := "(JJJ)Z" } : Jvm.MethodName) prog_8_method_4_code (6 : Nat) (Option.some Jvm.ClassFile.FieldType.boolean)) ∈ UW := uw_t4 165 rfl rfl
theorem mw_886 : (Jvm.Cond.methodLink "MixerStationModel" (121 : Nat) ({ cls := "MixerStationModel", name := "refused", desc := "(I)Z" } : Jvm.MethodName)) ∈ UW := uw_t4 166 rfl rfl
theorem mw_888 : (Jvm.Cond.instanceMethod ({ cls := "MixerStationModel", name := "refused", desc := "(I)Z" } : Jvm.MethodName)) ∈ UW := uw_t4 168 rfl rfl
theorem mw_889 : (Jvm.Cond.code ({ cls := "MixerStationModel", name := "refused", desc := "(I)Z" } : Jvm.MethodName) prog_8_method_3_code (2 : Nat) (Option.some Jvm.ClassFile.FieldType.boolean)) ∈ UW := uw_t4 169 rfl rfl
theorem mw_890 : (Jvm.Cond.methodLink "MixerStationLaw" (111 : Nat) ({ cls := "MixerStationModel", name := "clearText", desc := "()I" } : Jvm.MethodName)) ∈ UW := uw_t4 170 rfl rfl
theorem mw_891 : (Jvm.Cond.instanceMethod ({ cls := "MixerStationModel", name := "clearText", desc := "()I" } : Jvm.MethodName)) ∈ UW := uw_t4 171 rfl rfl
theorem mw_892 : (Jvm.Cond.selects "MixerStationModel" ({ cls := "MixerStationModel", name := "clearText", desc := "()I" } : Jvm.MethodName) ({ cls := "MixerStationModel", name := "clearText", desc := "()I" } : Jvm.MethodName)) ∈ UW := uw_t4 172 rfl rfl
theorem mw_893 : (Jvm.Cond.code ({ cls := "MixerStationModel", name := "clearText", desc := "()I" } : Jvm.MethodName) prog_8_method_36_code (2 : Nat) (Option.some Jvm.ClassFile.FieldType.int)) ∈ UW := uw_t4 173 rfl rfl
theorem mw_894 : (Jvm.Cond.methodLink "MixerStationLaw" (115 : Nat) ({ cls := "MixerStationModel", name := "errorPosition", desc := "()I" } : Jvm.MethodName)) ∈ UW := uw_t4 174 rfl rfl
theorem mw_895 : (Jvm.Cond.instanceMethod ({ cls := "MixerStationModel", name := "errorPosition", desc := "()I" } : Jvm.MethodName)) ∈ UW := uw_t4 175 rfl rfl
theorem mw_896 : (Jvm.Cond.selects "MixerStationModel" ({ cls := "MixerStationModel", name := "errorPosition", desc := "()I" } : Jvm.MethodName) ({ cls := "MixerStationModel", name := "errorPosition", desc := "()I" } : Jvm.MethodName)) ∈ UW := uw_t4 176 rfl rfl
theorem mw_897 : (Jvm.Cond.code ({ cls := "MixerStationModel", name := "errorPosition", desc := "()I" } : Jvm.MethodName) prog_8_method_45_code (1 : Nat) (Option.some Jvm.ClassFile.FieldType.int)) ∈ UW := uw_t4 177 rfl rfl
theorem mw_898 : (Jvm.Cond.methodLink "MixerStationModel" (167 : Nat) ({ cls := "MixerStationModel", name := "readText", desc := "()I" } : Jvm.MethodName)) ∈ UW := uw_t4 178 rfl rfl
theorem mw_900 : (Jvm.Cond.instanceMethod ({ cls := "MixerStationModel", name := "readText", desc := "()I" } : Jvm.MethodName)) ∈ UW := uw_t4 180 rfl rfl
theorem mw_901 : (Jvm.Cond.code ({ cls := "MixerStationModel", name := "readText", desc := "()I" } : Jvm.MethodName) prog_8_method_44_code (4 : Nat) (Option.some Jvm.ClassFile.FieldType.int)) ∈ UW := uw_t4 181 rfl rfl
theorem mw_902 : (Jvm.Cond.methodLink "MixerStationModel" (148 : Nat) ({ cls := "MixerStationModel", name := "isNext", desc := "(I)Z" } : Jvm.MethodName)) ∈ UW := uw_t4 182 rfl rfl
theorem mw_904 : (Jvm.Cond.instanceMethod ({ cls := "MixerStationModel", name := "isNext", desc := "(I)Z" } : Jvm.MethodName)) ∈ UW := uw_t4 184 rfl rfl
theorem mw_905 : (Jvm.Cond.code ({ cls := "MixerStationModel", name := "isNext", desc := "(I)Z" } : Jvm.MethodName) prog_8_method_37_code (2 : Nat) (Option.some Jvm.ClassFile.FieldType.boolean)) ∈ UW := uw_t4 185 rfl rfl
theorem mw_906 : (Jvm.Cond.methodLink "MixerStationModel" (134 : Nat) ({ cls := "MixerStationModel", name := "accept", desc := "(Z)V" } : Jvm.MethodName)) ∈ UW := uw_t4 186 rfl rfl
theorem mw_908 : (Jvm.Cond.instanceMethod ({ cls := "MixerStationModel", name := "accept", desc := "(Z)V" } : Jvm.MethodName)) ∈ UW := uw_t4 188 rfl rfl
theorem mw_909 : (Jvm.Cond.code ({ cls := "MixerStationModel", name := "accept", desc := "(Z)V" } : Jvm.MethodName) prog_8_method_38_code (2 : Nat) (Option.none : Option Jvm.ClassFile.FieldType)) ∈ UW := uw_t4 189 rfl rfl
theorem mw_910 : (Jvm.Cond.methodLink "MixerStationModel" (138 : Nat) ({ cls := "MixerStationModel", name := "digit", desc := "(II)I" } : Jvm.MethodName)) ∈ UW := uw_t4 190 rfl rfl
theorem mw_912 : (Jvm.Cond.instanceMethod ({ cls := "MixerStationModel", name := "digit", desc := "(II)I" } : Jvm.MethodName)) ∈ UW := uw_t4 192 rfl rfl
theorem mw_913 : (Jvm.Cond.code ({ cls := "MixerStationModel", name := "digit", desc := "(II)I" } : Jvm.MethodName) prog_8_method_39_code (4 : Nat) (Option.some Jvm.ClassFile.FieldType.int)) ∈ UW := uw_t4 193 rfl rfl
theorem mw_914 : (Jvm.Cond.constant "MixerStationModel" (64 : Nat) (-99999 : Int32)) ∈ UW := uw_t4 194 rfl rfl
theorem mw_915 : (Jvm.Cond.constantLong "MixerStationModel" (132 : Nat) (9 : Int64)) ∈ UW := uw_t4 195 rfl rfl
theorem mw_916 : (Jvm.Cond.methodLink "MixerStationModel" (141 : Nat) ({ cls := "MixerStationModel", name := "two", desc := "(II)I" } : Jvm.MethodName)) ∈ UW := uw_t4 196 rfl rfl
theorem mw_918 : (Jvm.Cond.instanceMethod ({ cls := "MixerStationModel", name := "two", desc := "(II)I" } : Jvm.MethodName)) ∈ UW := uw_t4 198 rfl rfl
theorem mw_919 : (Jvm.Cond.code ({ cls := "MixerStationModel", name := "two", desc := "(II)I" } : Jvm.MethodName) prog_8_method_40_code (6 : Nat) (Option.some Jvm.ClassFile.FieldType.int)) ∈ UW := uw_t4 199 rfl rfl
theorem mw_920 : (Jvm.Cond.methodLink "MixerStationModel" (158 : Nat) ({ cls := "MixerStationModel", name := "readRoom", desc := "()V" } : Jvm.MethodName)) ∈ UW := uw_t4 200 rfl rfl
theorem mw_922 : (Jvm.Cond.instanceMethod ({ cls := "MixerStationModel", name := "readRoom", desc := "()V" } : Jvm.MethodName)) ∈ UW := uw_t4 202 rfl rfl
theorem mw_923 : (Jvm.Cond.code ({ cls := "MixerStationModel", name := "readRoom", desc := "()V" } : Jvm.MethodName) prog_8_method_41_code (5 : Nat) (Option.none : Option Jvm.ClassFile.FieldType)) ∈ UW := uw_t4 203 rfl rfl
theorem mw_924 : (Jvm.Cond.methodLink "MixerStationModel" (144 : Nat) ({ cls := "MixerStationModel", name := "addTo", desc := "([IIIII)V" } : Jvm.MethodName)) ∈ UW := uw_t4 204 rfl rfl
theorem mw_925 : (Jvm.Cond.static ({ cls := "MixerStationModel", name := "addTo", desc := "([IIIII)V" } : Jvm.MethodName)) ∈ UW := uw_t4 205 rfl rfl
theorem mw_926 : (Jvm.Cond.code ({ cls := "MixerStationModel", name := "addTo", desc := "([IIIII)V" } : Jvm.MethodName) prog_8_method_21_code (6 : Nat) (Option.none : Option Jvm.ClassFile.FieldType)) ∈ UW := uw_t4 206 rfl rfl
theorem mw_927 : (Jvm.Cond.methodLink "MixerStationModel" (53 : Nat) ({ cls := "MixerStationModel", name := "cell", desc := "(II)I" } : Jvm.MethodName)) ∈ UW := uw_t4 207 rfl rfl
theorem mw_928 : (Jvm.Cond.static ({ cls := "MixerStationModel", name := "cell", desc := "(II)I" } : Jvm.MethodName)) ∈ UW := uw_t4 208 rfl rfl
theorem mw_929 : (Jvm.Cond.code ({ cls := "MixerStationModel", name := "cell", desc := "(II)I" } : Jvm.MethodName) prog_8_method_13_code (2 : Nat) (Option.some Jvm.ClassFile.FieldType.int)) ∈ UW := uw_t4 209 rfl rfl
theorem mw_930 : (Jvm.Cond.methodLink "MixerStationModel" (69 : Nat) ({ cls := "MixerStationModel", name := "go", desc := "([IIII)V" } : Jvm.MethodName)) ∈ UW := uw_t4 210 rfl rfl
theorem mw_931 : (Jvm.Cond.static ({ cls := "MixerStationModel", name := "go", desc := "([IIII)V" } : Jvm.MethodName)) ∈ UW := uw_t4 211 rfl rfl
theorem mw_932 : (Jvm.Cond.code ({ cls := "MixerStationModel", name := "go", desc := "([IIII)V" } : Jvm.MethodName) prog_8_method_20_code (5 : Nat) (Option.none : Option Jvm.ClassFile.FieldType)) ∈ UW := uw_t4 212 rfl rfl
theorem mw_933 : (Jvm.Cond.methodLink "MixerStationModel" (65 : Nat) ({ cls := "MixerStationModel", name := "wayOf", desc := "([III)I" } : Jvm.MethodName)) ∈ UW := uw_t4 213 rfl rfl
theorem mw_934 : (Jvm.Cond.static ({ cls := "MixerStationModel", name := "wayOf", desc := "([III)I" } : Jvm.MethodName)) ∈ UW := uw_t4 214 rfl rfl
theorem mw_935 : (Jvm.Cond.code ({ cls := "MixerStationModel", name := "wayOf", desc := "([III)I" } : Jvm.MethodName) prog_8_method_18_code (5 : Nat) (Option.some Jvm.ClassFile.FieldType.int)) ∈ UW := uw_t4 215 rfl rfl
theorem mw_936 : (Jvm.Cond.methodLink "MixerStationModel" (161 : Nat) ({ cls := "MixerStationModel", name := "readOutside", desc := "()V" } : Jvm.MethodName)) ∈ UW := uw_t4 216 rfl rfl
theorem mw_938 : (Jvm.Cond.instanceMethod ({ cls := "MixerStationModel", name := "readOutside", desc := "()V" } : Jvm.MethodName)) ∈ UW := uw_t4 218 rfl rfl
theorem mw_939 : (Jvm.Cond.code ({ cls := "MixerStationModel", name := "readOutside", desc := "()V" } : Jvm.MethodName) prog_8_method_42_code (3 : Nat) (Option.none : Option Jvm.ClassFile.FieldType)) ∈ UW := uw_t4 219 rfl rfl
theorem mw_940 : (Jvm.Cond.methodLink "MixerStationModel" (164 : Nat) ({ cls := "MixerStationModel", name := "readSetting", desc := "()V" } : Jvm.MethodName)) ∈ UW := uw_t4 220 rfl rfl
theorem mw_942 : (Jvm.Cond.instanceMethod ({ cls := "MixerStationModel", name := "readSetting", desc := "()V" } : Jvm.MethodName)) ∈ UW := uw_t4 222 rfl rfl
theorem mw_943 : (Jvm.Cond.code ({ cls := "MixerStationModel", name := "readSetting", desc := "()V" } : Jvm.MethodName) prog_8_method_43_code (3 : Nat) (Option.none : Option Jvm.ClassFile.FieldType)) ∈ UW := uw_t4 223 rfl rfl
theorem mw_944 : (Jvm.Cond.methodLink "MixerStationModel" (151 : Nat) ({ cls := "MixerStationModel", name := "least", desc := "(I)I" } : Jvm.MethodName)) ∈ UW := uw_t4 224 rfl rfl
theorem mw_945 : (Jvm.Cond.static ({ cls := "MixerStationModel", name := "least", desc := "(I)I" } : Jvm.MethodName)) ∈ UW := uw_t4 225 rfl rfl
theorem mw_946 : (Jvm.Cond.code ({ cls := "MixerStationModel", name := "least", desc := "(I)I" } : Jvm.MethodName) prog_8_method_8_code (1 : Nat) (Option.some Jvm.ClassFile.FieldType.int)) ∈ UW := uw_t4 226 rfl rfl
theorem mw_947 : (Jvm.Cond.methodLink "MixerStationModel" (155 : Nat) ({ cls := "MixerStationModel", name := "most", desc := "(I)I" } : Jvm.MethodName)) ∈ UW := uw_t4 227 rfl rfl
theorem mw_948 : (Jvm.Cond.static ({ cls := "MixerStationModel", name := "most", desc := "(I)I" } : Jvm.MethodName)) ∈ UW := uw_t4 228 rfl rfl
theorem mw_949 : (Jvm.Cond.code ({ cls := "MixerStationModel", name := "most", desc := "(I)I" } : Jvm.MethodName) prog_8_method_9_code (1 : Nat) (Option.some Jvm.ClassFile.FieldType.int)) ∈ UW := uw_t4 229 rfl rfl
theorem mw_950 : (Jvm.Cond.methodLink "MixerStationLaw" (119 : Nat) ({ cls := "MixerStationModel", name := "load", desc := "()I" } : Jvm.MethodName)) ∈ UW := uw_t4 230 rfl rfl
theorem mw_951 : (Jvm.Cond.instanceMethod ({ cls := "MixerStationModel", name := "load", desc := "()I" } : Jvm.MethodName)) ∈ UW := uw_t4 231 rfl rfl
theorem mw_952 : (Jvm.Cond.selects "MixerStationModel" ({ cls := "MixerStationModel", name := "load", desc := "()I" } : Jvm.MethodName) ({ cls := "MixerStationModel", name := "load", desc := "()I" } : Jvm.MethodName)) ∈ UW := uw_t4 232 rfl rfl
theorem mw_953 : (Jvm.Cond.code ({ cls := "MixerStationModel", name := "load", desc := "()I" } : Jvm.MethodName) prog_8_method_46_code (1 : Nat) (Option.some Jvm.ClassFile.FieldType.int)) ∈ UW := uw_t4 233 rfl rfl
theorem mw_954 : (Jvm.Cond.methodLink "MixerStationModel" (45 : Nat) ({ cls := "MixerStationModel", name := "copy", desc := "([II[III)V" } : Jvm.MethodName)) ∈ UW := uw_t4 234 rfl rfl
theorem mw_955 : (Jvm.Cond.static ({ cls := "MixerStationModel", name := "copy", desc := "([II[III)V" } : Jvm.MethodName)) ∈ UW := uw_t4 235 rfl rfl
theorem mw_956 : (Jvm.Cond.code ({ cls := "MixerStationModel", name := "copy", desc := "([II[III)V" } : Jvm.MethodName) prog_8_method_5_code (6 : Nat) (Option.none : Option Jvm.ClassFile.FieldType)) ∈ UW := uw_t4 236 rfl rfl
theorem mw_957 : (Jvm.Cond.methodLink "MixerStationLaw" (122 : Nat) ({ cls := "MixerStationModel", name := "about", desc := "(I)I" } : Jvm.MethodName)) ∈ UW := uw_t4 237 rfl rfl
theorem mw_958 : (Jvm.Cond.instanceMethod ({ cls := "MixerStationModel", name := "about", desc := "(I)I" } : Jvm.MethodName)) ∈ UW := uw_t4 238 rfl rfl
theorem mw_959 : (Jvm.Cond.selects "MixerStationModel" ({ cls := "MixerStationModel", name := "about", desc := "(I)I" } : Jvm.MethodName) ({ cls := "MixerStationModel", name := "about", desc := "(I)I" } : Jvm.MethodName)) ∈ UW := uw_t4 239 rfl rfl
theorem mw_960 : (Jvm.Cond.code ({ cls := "MixerStationModel", name := "about", desc := "(I)I" } : Jvm.MethodName) prog_8_method_49_code (2 : Nat) (Option.some Jvm.ClassFile.FieldType.int)) ∈ UW := uw_t5 0 rfl rfl
theorem mw_961 : (Jvm.Cond.constantLong "MixerStationModel" (171 : Nat) (12 : Int64)) ∈ UW := uw_t5 1 rfl rfl
theorem mw_962 : (Jvm.Cond.methodLink "MixerStationModel" (80 : Nat) ({ cls := "MixerStationModel", name := "wish", desc := "([I)I" } : Jvm.MethodName)) ∈ UW := uw_t5 2 rfl rfl
theorem mw_963 : (Jvm.Cond.static ({ cls := "MixerStationModel", name := "wish", desc := "([I)I" } : Jvm.MethodName)) ∈ UW := uw_t5 3 rfl rfl
theorem mw_964 : (Jvm.Cond.code ({ cls := "MixerStationModel", name := "wish", desc := "([I)I" } : Jvm.MethodName) prog_8_method_22_code (2 : Nat) (Option.some Jvm.ClassFile.FieldType.int)) ∈ UW := uw_t5 4 rfl rfl
theorem mw_965 : (Jvm.Cond.methodLink "MixerStationModel" (173 : Nat) ({ cls := "MixerStationModel", name := "allHeat", desc := "([I)I" } : Jvm.MethodName)) ∈ UW := uw_t5 5 rfl rfl
theorem mw_966 : (Jvm.Cond.static ({ cls := "MixerStationModel", name := "allHeat", desc := "([I)I" } : Jvm.MethodName)) ∈ UW := uw_t5 6 rfl rfl
theorem mw_967 : (Jvm.Cond.code ({ cls := "MixerStationModel", name := "allHeat", desc := "([I)I" } : Jvm.MethodName) prog_8_method_47_code (3 : Nat) (Option.some Jvm.ClassFile.FieldType.int)) ∈ UW := uw_t5 7 rfl rfl
theorem mw_968 : (Jvm.Cond.methodLink "MixerStationModel" (176 : Nat) ({ cls := "MixerStationModel", name := "allOf", desc := "([II)I" } : Jvm.MethodName)) ∈ UW := uw_t5 8 rfl rfl
theorem mw_969 : (Jvm.Cond.static ({ cls := "MixerStationModel", name := "allOf", desc := "([II)I" } : Jvm.MethodName)) ∈ UW := uw_t5 9 rfl rfl
theorem mw_970 : (Jvm.Cond.code ({ cls := "MixerStationModel", name := "allOf", desc := "([II)I" } : Jvm.MethodName) prog_8_method_48_code (4 : Nat) (Option.some Jvm.ClassFile.FieldType.int)) ∈ UW := uw_t5 10 rfl rfl
theorem mw_971 : (Jvm.Cond.methodLink "MixerStationLaw" (125 : Nat) ({ cls := "MixerStationModel", name := "setting", desc := "(I)I" } : Jvm.MethodName)) ∈ UW := uw_t5 11 rfl rfl
theorem mw_972 : (Jvm.Cond.instanceMethod ({ cls := "MixerStationModel", name := "setting", desc := "(I)I" } : Jvm.MethodName)) ∈ UW := uw_t5 12 rfl rfl
theorem mw_973 : (Jvm.Cond.selects "MixerStationModel" ({ cls := "MixerStationModel", name := "setting", desc := "(I)I" } : Jvm.MethodName) ({ cls := "MixerStationModel", name := "setting", desc := "(I)I" } : Jvm.MethodName)) ∈ UW := uw_t5 13 rfl rfl
theorem mw_974 : (Jvm.Cond.code ({ cls := "MixerStationModel", name := "setting", desc := "(I)I" } : Jvm.MethodName) prog_8_method_50_code (2 : Nat) (Option.some Jvm.ClassFile.FieldType.int)) ∈ UW := uw_t5 14 rfl rfl
theorem mw_975 : (Jvm.Cond.constantLong "MixerStationModel" (179 : Nat) (8 : Int64)) ∈ UW := uw_t5 15 rfl rfl
theorem mw_976 : (Jvm.Cond.methodLink "MixerStationLaw" (129 : Nat) ({ cls := "MixerStationModel", name := "place", desc := "(II)I" } : Jvm.MethodName)) ∈ UW := uw_t5 16 rfl rfl
theorem mw_977 : (Jvm.Cond.instanceMethod ({ cls := "MixerStationModel", name := "place", desc := "(II)I" } : Jvm.MethodName)) ∈ UW := uw_t5 17 rfl rfl
theorem mw_978 : (Jvm.Cond.selects "MixerStationModel" ({ cls := "MixerStationModel", name := "place", desc := "(II)I" } : Jvm.MethodName) ({ cls := "MixerStationModel", name := "place", desc := "(II)I" } : Jvm.MethodName)) ∈ UW := uw_t5 18 rfl rfl
theorem mw_979 : (Jvm.Cond.code ({ cls := "MixerStationModel", name := "place", desc := "(II)I" } : Jvm.MethodName) prog_8_method_51_code (3 : Nat) (Option.some Jvm.ClassFile.FieldType.int)) ∈ UW := uw_t5 19 rfl rfl
theorem mw_980 : (Jvm.Cond.methodLink "MixerStationModel" (181 : Nat) ({ cls := "MixerStationModel", name := "isWarmPlace", desc := "(I)Z" } : Jvm.MethodName)) ∈ UW := uw_t5 20 rfl rfl
theorem mw_982 : (Jvm.Cond.instanceMethod ({ cls := "MixerStationModel", name := "isWarmPlace", desc := "(I)Z" } : Jvm.MethodName)) ∈ UW := uw_t5 22 rfl rfl
theorem mw_983 : (Jvm.Cond.code ({ cls := "MixerStationModel", name := "isWarmPlace", desc := "(I)Z" } : Jvm.MethodName) prog_8_method_15_code (2 : Nat) (Option.some Jvm.ClassFile.FieldType.boolean)) ∈ UW := uw_t5 23 rfl rfl
theorem mw_984 : (Jvm.Cond.constantLong "MixerStationModel" (184 : Nat) (2 : Int64)) ∈ UW := uw_t5 24 rfl rfl
theorem mw_985 : (Jvm.Cond.methodLink "MixerStationModel" (73 : Nat) ({ cls := "MixerStationModel", name := "degrees", desc := "([II)I" } : Jvm.MethodName)) ∈ UW := uw_t5 25 rfl rfl
theorem mw_986 : (Jvm.Cond.static ({ cls := "MixerStationModel", name := "degrees", desc := "([II)I" } : Jvm.MethodName)) ∈ UW := uw_t5 26 rfl rfl
theorem mw_987 : (Jvm.Cond.code ({ cls := "MixerStationModel", name := "degrees", desc := "([II)I" } : Jvm.MethodName) prog_8_method_17_code (2 : Nat) (Option.some Jvm.ClassFile.FieldType.int)) ∈ UW := uw_t5 27 rfl rfl
theorem mw_988 : (Jvm.Cond.methodLink "MixerStationModel" (57 : Nat) ({ cls := "MixerStationModel", name := "capacity", desc := "([II)I" } : Jvm.MethodName)) ∈ UW := uw_t5 28 rfl rfl
theorem mw_989 : (Jvm.Cond.static ({ cls := "MixerStationModel", name := "capacity", desc := "([II)I" } : Jvm.MethodName)) ∈ UW := uw_t5 29 rfl rfl
theorem mw_990 : (Jvm.Cond.code ({ cls := "MixerStationModel", name := "capacity", desc := "([II)I" } : Jvm.MethodName) prog_8_method_16_code (2 : Nat) (Option.some Jvm.ClassFile.FieldType.int)) ∈ UW := uw_t5 30 rfl rfl
theorem mw_991 : (Jvm.Cond.methodLink "MixerStationModel" (61 : Nat) ({ cls := "MixerStationModel", name := "down", desc := "(II)I" } : Jvm.MethodName)) ∈ UW := uw_t5 31 rfl rfl
theorem mw_992 : (Jvm.Cond.static ({ cls := "MixerStationModel", name := "down", desc := "(II)I" } : Jvm.MethodName)) ∈ UW := uw_t5 32 rfl rfl
theorem mw_993 : (Jvm.Cond.code ({ cls := "MixerStationModel", name := "down", desc := "(II)I" } : Jvm.MethodName) prog_8_method_7_code (3 : Nat) (Option.some Jvm.ClassFile.FieldType.int)) ∈ UW := uw_t5 33 rfl rfl
theorem mw_994 : (Jvm.Cond.methodLink "MixerStationLaw" (132 : Nat) ({ cls := "MixerStationModel", name := "room", desc := "(II)I" } : Jvm.MethodName)) ∈ UW := uw_t5 34 rfl rfl
theorem mw_995 : (Jvm.Cond.instanceMethod ({ cls := "MixerStationModel", name := "room", desc := "(II)I" } : Jvm.MethodName)) ∈ UW := uw_t5 35 rfl rfl
theorem mw_996 : (Jvm.Cond.selects "MixerStationModel" ({ cls := "MixerStationModel", name := "room", desc := "(II)I" } : Jvm.MethodName) ({ cls := "MixerStationModel", name := "room", desc := "(II)I" } : Jvm.MethodName)) ∈ UW := uw_t5 36 rfl rfl
theorem mw_997 : (Jvm.Cond.code ({ cls := "MixerStationModel", name := "room", desc := "(II)I" } : Jvm.MethodName) prog_8_method_52_code (3 : Nat) (Option.some Jvm.ClassFile.FieldType.int)) ∈ UW := uw_t5 37 rfl rfl
theorem mw_998 : (Jvm.Cond.methodLink "MixerStationModel" (186 : Nat) ({ cls := "MixerStationModel", name := "isRoom", desc := "(I)Z" } : Jvm.MethodName)) ∈ UW := uw_t5 38 rfl rfl
theorem mw_1000 : (Jvm.Cond.instanceMethod ({ cls := "MixerStationModel", name := "isRoom", desc := "(I)Z" } : Jvm.MethodName)) ∈ UW := uw_t5 40 rfl rfl
theorem mw_1001 : (Jvm.Cond.code ({ cls := "MixerStationModel", name := "isRoom", desc := "(I)Z" } : Jvm.MethodName) prog_8_method_14_code (2 : Nat) (Option.some Jvm.ClassFile.FieldType.boolean)) ∈ UW := uw_t5 41 rfl rfl
theorem mw_1002 : (Jvm.Cond.constantLong "MixerStationModel" (189 : Nat) (6 : Int64)) ∈ UW := uw_t5 42 rfl rfl
theorem mw_1003 : (Jvm.Cond.methodLink "MixerStationLaw" (135 : Nat) ({ cls := "MixerStationModel", name := "moved", desc := "(II)I" } : Jvm.MethodName)) ∈ UW := uw_t5 43 rfl rfl
theorem mw_1004 : (Jvm.Cond.instanceMethod ({ cls := "MixerStationModel", name := "moved", desc := "(II)I" } : Jvm.MethodName)) ∈ UW := uw_t5 44 rfl rfl
theorem mw_1005 : (Jvm.Cond.selects "MixerStationModel" ({ cls := "MixerStationModel", name := "moved", desc := "(II)I" } : Jvm.MethodName) ({ cls := "MixerStationModel", name := "moved", desc := "(II)I" } : Jvm.MethodName)) ∈ UW := uw_t5 45 rfl rfl
theorem mw_1006 : (Jvm.Cond.code ({ cls := "MixerStationModel", name := "moved", desc := "(II)I" } : Jvm.MethodName) prog_8_method_53_code (3 : Nat) (Option.some Jvm.ClassFile.FieldType.int)) ∈ UW := uw_t5 46 rfl rfl
theorem mw_1007 : (Jvm.Cond.methodLink "MixerStationModel" (191 : Nat) ({ cls := "MixerStationModel", name := "movedOf", desc := "([III)I" } : Jvm.MethodName)) ∈ UW := uw_t5 47 rfl rfl
theorem mw_1008 : (Jvm.Cond.static ({ cls := "MixerStationModel", name := "movedOf", desc := "([III)I" } : Jvm.MethodName)) ∈ UW := uw_t5 48 rfl rfl
theorem mw_1009 : (Jvm.Cond.code ({ cls := "MixerStationModel", name := "movedOf", desc := "([III)I" } : Jvm.MethodName) prog_8_method_19_code (4 : Nat) (Option.some Jvm.ClassFile.FieldType.int)) ∈ UW := uw_t5 49 rfl rfl
theorem mw_1010 : (Jvm.Cond.methodLink "MixerStationLaw" (138 : Nat) ({ cls := "MixerStationModel", name := "way", desc := "(II)I" } : Jvm.MethodName)) ∈ UW := uw_t5 50 rfl rfl
theorem mw_1011 : (Jvm.Cond.instanceMethod ({ cls := "MixerStationModel", name := "way", desc := "(II)I" } : Jvm.MethodName)) ∈ UW := uw_t5 51 rfl rfl
theorem mw_1012 : (Jvm.Cond.selects "MixerStationModel" ({ cls := "MixerStationModel", name := "way", desc := "(II)I" } : Jvm.MethodName) ({ cls := "MixerStationModel", name := "way", desc := "(II)I" } : Jvm.MethodName)) ∈ UW := uw_t5 52 rfl rfl
theorem mw_1013 : (Jvm.Cond.code ({ cls := "MixerStationModel", name := "way", desc := "(II)I" } : Jvm.MethodName) prog_8_method_54_code (4 : Nat) (Option.some Jvm.ClassFile.FieldType.int)) ∈ UW := uw_t5 53 rfl rfl
theorem mw_1014 : (Jvm.Cond.methodLink "MixerStationLaw" (142 : Nat) ({ cls := "MixerStationModel", name := "addRoom", desc := "(IIII)I" } : Jvm.MethodName)) ∈ UW := uw_t5 54 rfl rfl
theorem mw_1015 : (Jvm.Cond.instanceMethod ({ cls := "MixerStationModel", name := "addRoom", desc := "(IIII)I" } : Jvm.MethodName)) ∈ UW := uw_t5 55 rfl rfl
theorem mw_1016 : (Jvm.Cond.selects "MixerStationModel" ({ cls := "MixerStationModel", name := "addRoom", desc := "(IIII)I" } : Jvm.MethodName) ({ cls := "MixerStationModel", name := "addRoom", desc := "(IIII)I" } : Jvm.MethodName)) ∈ UW := uw_t5 56 rfl rfl
theorem mw_1017 : (Jvm.Cond.code ({ cls := "MixerStationModel", name := "addRoom", desc := "(IIII)I" } : Jvm.MethodName) prog_8_method_55_code (6 : Nat) (Option.some Jvm.ClassFile.FieldType.int)) ∈ UW := uw_t5 57 rfl rfl
theorem mw_1018 : (Jvm.Cond.constantLong "MixerStationModel" (40 : Nat) (10 : Int64)) ∈ UW := uw_t5 58 rfl rfl
theorem mw_1019 : (Jvm.Cond.constantLong "MixerStationModel" (194 : Nat) (25 : Int64)) ∈ UW := uw_t5 59 rfl rfl
theorem mw_1020 : (Jvm.Cond.methodLink "MixerStationModel" (196 : Nat) ({ cls := "MixerStationModel", name := "note", desc := "()V" } : Jvm.MethodName)) ∈ UW := uw_t5 60 rfl rfl
theorem mw_1022 : (Jvm.Cond.instanceMethod ({ cls := "MixerStationModel", name := "note", desc := "()V" } : Jvm.MethodName)) ∈ UW := uw_t5 62 rfl rfl
theorem mw_1023 : (Jvm.Cond.code ({ cls := "MixerStationModel", name := "note", desc := "()V" } : Jvm.MethodName) prog_8_method_11_code (1 : Nat) (Option.none : Option Jvm.ClassFile.FieldType)) ∈ UW := uw_t5 63 rfl rfl
theorem mw_1024 : (Jvm.Cond.methodLink "MixerStationLaw" (146 : Nat) ({ cls := "MixerStationModel", name := "setRoom", desc := "(III)I" } : Jvm.MethodName)) ∈ UW := uw_t5 64 rfl rfl
theorem mw_1025 : (Jvm.Cond.instanceMethod ({ cls := "MixerStationModel", name := "setRoom", desc := "(III)I" } : Jvm.MethodName)) ∈ UW := uw_t5 65 rfl rfl
theorem mw_1026 : (Jvm.Cond.selects "MixerStationModel" ({ cls := "MixerStationModel", name := "setRoom", desc := "(III)I" } : Jvm.MethodName) ({ cls := "MixerStationModel", name := "setRoom", desc := "(III)I" } : Jvm.MethodName)) ∈ UW := uw_t5 66 rfl rfl
theorem mw_1027 : (Jvm.Cond.code ({ cls := "MixerStationModel", name := "setRoom", desc := "(III)I" } : Jvm.MethodName) prog_8_method_56_code (6 : Nat) (Option.some Jvm.ClassFile.FieldType.int)) ∈ UW := uw_t5 67 rfl rfl
theorem mw_1028 : (Jvm.Cond.methodLink "MixerStationLaw" (150 : Nat) ({ cls := "MixerStationModel", name := "window", desc := "(IZ)I" } : Jvm.MethodName)) ∈ UW := uw_t5 68 rfl rfl
theorem mw_1029 : (Jvm.Cond.instanceMethod ({ cls := "MixerStationModel", name := "window", desc := "(IZ)I" } : Jvm.MethodName)) ∈ UW := uw_t5 69 rfl rfl
theorem mw_1030 : (Jvm.Cond.selects "MixerStationModel" ({ cls := "MixerStationModel", name := "window", desc := "(IZ)I" } : Jvm.MethodName) ({ cls := "MixerStationModel", name := "window", desc := "(IZ)I" } : Jvm.MethodName)) ∈ UW := uw_t5 70 rfl rfl
theorem mw_1031 : (Jvm.Cond.code ({ cls := "MixerStationModel", name := "window", desc := "(IZ)I" } : Jvm.MethodName) prog_8_method_57_code (3 : Nat) (Option.some Jvm.ClassFile.FieldType.int)) ∈ UW := uw_t5 71 rfl rfl
theorem mw_1032 : (Jvm.Cond.methodLink "MixerStationLaw" (153 : Nat) ({ cls := "MixerStationModel", name := "set", desc := "(II)I" } : Jvm.MethodName)) ∈ UW := uw_t5 72 rfl rfl
theorem mw_1033 : (Jvm.Cond.instanceMethod ({ cls := "MixerStationModel", name := "set", desc := "(II)I" } : Jvm.MethodName)) ∈ UW := uw_t5 73 rfl rfl
theorem mw_1034 : (Jvm.Cond.selects "MixerStationModel" ({ cls := "MixerStationModel", name := "set", desc := "(II)I" } : Jvm.MethodName) ({ cls := "MixerStationModel", name := "set", desc := "(II)I" } : Jvm.MethodName)) ∈ UW := uw_t5 74 rfl rfl
theorem mw_1035 : (Jvm.Cond.code ({ cls := "MixerStationModel", name := "set", desc := "(II)I" } : Jvm.MethodName) prog_8_method_59_code (4 : Nat) (Option.some Jvm.ClassFile.FieldType.int)) ∈ UW := uw_t5 75 rfl rfl
theorem mw_1036 : (Jvm.Cond.methodLink "MixerStationModel" (199 : Nat) ({ cls := "MixerStationModel", name := "isSetting", desc := "(II)Z" } : Jvm.MethodName)) ∈ UW := uw_t5 76 rfl rfl
theorem mw_1037 : (Jvm.Cond.static ({ cls := "MixerStationModel", name := "isSetting", desc := "(II)Z" } : Jvm.MethodName)) ∈ UW := uw_t5 77 rfl rfl
theorem mw_1038 : (Jvm.Cond.code ({ cls := "MixerStationModel", name := "isSetting", desc := "(II)Z" } : Jvm.MethodName) prog_8_method_58_code (2 : Nat) (Option.some Jvm.ClassFile.FieldType.boolean)) ∈ UW := uw_t5 78 rfl rfl
theorem mw_1039 : (Jvm.Cond.methodLink "MixerStationLaw" (156 : Nat) ({ cls := "MixerStationModel", name := "outside", desc := "(I)I" } : Jvm.MethodName)) ∈ UW := uw_t5 79 rfl rfl
theorem mw_1040 : (Jvm.Cond.instanceMethod ({ cls := "MixerStationModel", name := "outside", desc := "(I)I" } : Jvm.MethodName)) ∈ UW := uw_t5 80 rfl rfl
theorem mw_1041 : (Jvm.Cond.selects "MixerStationModel" ({ cls := "MixerStationModel", name := "outside", desc := "(I)I" } : Jvm.MethodName) ({ cls := "MixerStationModel", name := "outside", desc := "(I)I" } : Jvm.MethodName)) ∈ UW := uw_t5 81 rfl rfl
theorem mw_1042 : (Jvm.Cond.code ({ cls := "MixerStationModel", name := "outside", desc := "(I)I" } : Jvm.MethodName) prog_8_method_61_code (3 : Nat) (Option.some Jvm.ClassFile.FieldType.int)) ∈ UW := uw_t5 82 rfl rfl
theorem mw_1043 : (Jvm.Cond.methodLink "MixerStationModel" (207 : Nat) ({ cls := "MixerStationModel", name := "isOutside", desc := "(I)Z" } : Jvm.MethodName)) ∈ UW := uw_t5 83 rfl rfl
theorem mw_1044 : (Jvm.Cond.static ({ cls := "MixerStationModel", name := "isOutside", desc := "(I)Z" } : Jvm.MethodName)) ∈ UW := uw_t5 84 rfl rfl
theorem mw_1045 : (Jvm.Cond.code ({ cls := "MixerStationModel", name := "isOutside", desc := "(I)Z" } : Jvm.MethodName) prog_8_method_60_code (1 : Nat) (Option.some Jvm.ClassFile.FieldType.boolean)) ∈ UW := uw_t5 85 rfl rfl
theorem mw_1046 : (Jvm.Cond.constantLong "MixerStationModel" (203 : Nat) (-20 : Int64)) ∈ UW := uw_t5 86 rfl rfl
theorem mw_1047 : (Jvm.Cond.constantLong "MixerStationModel" (205 : Nat) (40 : Int64)) ∈ UW := uw_t5 87 rfl rfl
theorem mw_1048 : (Jvm.Cond.methodLink "MixerStationLaw" (159 : Nat) ({ cls := "MixerStationModel", name := "pass", desc := "(I)I" } : Jvm.MethodName)) ∈ UW := uw_t5 88 rfl rfl
theorem mw_1049 : (Jvm.Cond.instanceMethod ({ cls := "MixerStationModel", name := "pass", desc := "(I)I" } : Jvm.MethodName)) ∈ UW := uw_t5 89 rfl rfl
theorem mw_1050 : (Jvm.Cond.selects "MixerStationModel" ({ cls := "MixerStationModel", name := "pass", desc := "(I)I" } : Jvm.MethodName) ({ cls := "MixerStationModel", name := "pass", desc := "(I)I" } : Jvm.MethodName)) ∈ UW := uw_t5 90 rfl rfl
theorem mw_1051 : (Jvm.Cond.code ({ cls := "MixerStationModel", name := "pass", desc := "(I)I" } : Jvm.MethodName) prog_8_method_62_code (2 : Nat) (Option.some Jvm.ClassFile.FieldType.int)) ∈ UW := uw_t5 91 rfl rfl
theorem mw_1052 : (Jvm.Cond.constantLong "MixerStationModel" (210 : Nat) (60 : Int64)) ∈ UW := uw_t5 92 rfl rfl
theorem mw_1053 : (Jvm.Cond.methodLink "MixerStationModel" (212 : Nat) ({ cls := "MixerStationModel", name := "goMinutes", desc := "([II)I" } : Jvm.MethodName)) ∈ UW := uw_t5 93 rfl rfl
theorem mw_1054 : (Jvm.Cond.static ({ cls := "MixerStationModel", name := "goMinutes", desc := "([II)I" } : Jvm.MethodName)) ∈ UW := uw_t5 94 rfl rfl
theorem mw_1055 : (Jvm.Cond.code ({ cls := "MixerStationModel", name := "goMinutes", desc := "([II)I" } : Jvm.MethodName) prog_8_method_34_code (4 : Nat) (Option.some Jvm.ClassFile.FieldType.int)) ∈ UW := uw_t5 95 rfl rfl
theorem mw_1056 : (Jvm.Cond.methodLink "MixerStationModel" (113 : Nat) ({ cls := "MixerStationModel", name := "goMinute", desc := "([I)I" } : Jvm.MethodName)) ∈ UW := uw_t5 96 rfl rfl
theorem mw_1057 : (Jvm.Cond.static ({ cls := "MixerStationModel", name := "goMinute", desc := "([I)I" } : Jvm.MethodName)) ∈ UW := uw_t5 97 rfl rfl
theorem mw_1058 : (Jvm.Cond.code ({ cls := "MixerStationModel", name := "goMinute", desc := "([I)I" } : Jvm.MethodName) prog_8_method_33_code (3 : Nat) (Option.some Jvm.ClassFile.FieldType.int)) ∈ UW := uw_t5 98 rfl rfl
theorem mw_1059 : (Jvm.Cond.methodLink "MixerStationModel" (91 : Nat) ({ cls := "MixerStationModel", name := "goSeason", desc := "([I)V" } : Jvm.MethodName)) ∈ UW := uw_t5 99 rfl rfl
theorem mw_1060 : (Jvm.Cond.static ({ cls := "MixerStationModel", name := "goSeason", desc := "([I)V" } : Jvm.MethodName)) ∈ UW := uw_t5 100 rfl rfl
theorem mw_1061 : (Jvm.Cond.code ({ cls := "MixerStationModel", name := "goSeason", desc := "([I)V" } : Jvm.MethodName) prog_8_method_23_code (2 : Nat) (Option.none : Option Jvm.ClassFile.FieldType)) ∈ UW := uw_t5 101 rfl rfl
theorem mw_1062 : (Jvm.Cond.methodLink "MixerStationModel" (94 : Nat) ({ cls := "MixerStationModel", name := "goBoiler", desc := "([I)V" } : Jvm.MethodName)) ∈ UW := uw_t5 102 rfl rfl
theorem mw_1063 : (Jvm.Cond.static ({ cls := "MixerStationModel", name := "goBoiler", desc := "([I)V" } : Jvm.MethodName)) ∈ UW := uw_t5 103 rfl rfl
theorem mw_1064 : (Jvm.Cond.code ({ cls := "MixerStationModel", name := "goBoiler", desc := "([I)V" } : Jvm.MethodName) prog_8_method_25_code (4 : Nat) (Option.none : Option Jvm.ClassFile.FieldType)) ∈ UW := uw_t5 104 rfl rfl
theorem mw_1065 : (Jvm.Cond.methodLink "MixerStationModel" (76 : Nat) ({ cls := "MixerStationModel", name := "turn", desc := "([II)V" } : Jvm.MethodName)) ∈ UW := uw_t5 105 rfl rfl
theorem mw_1066 : (Jvm.Cond.static ({ cls := "MixerStationModel", name := "turn", desc := "([II)V" } : Jvm.MethodName)) ∈ UW := uw_t5 106 rfl rfl
theorem mw_1067 : (Jvm.Cond.code ({ cls := "MixerStationModel", name := "turn", desc := "([II)V" } : Jvm.MethodName) prog_8_method_24_code (2 : Nat) (Option.none : Option Jvm.ClassFile.FieldType)) ∈ UW := uw_t5 107 rfl rfl
theorem mw_1068 : (Jvm.Cond.methodLink "MixerStationModel" (97 : Nat) ({ cls := "MixerStationModel", name := "goValve", desc := "([I)V" } : Jvm.MethodName)) ∈ UW := uw_t5 108 rfl rfl
theorem mw_1069 : (Jvm.Cond.static ({ cls := "MixerStationModel", name := "goValve", desc := "([I)V" } : Jvm.MethodName)) ∈ UW := uw_t5 109 rfl rfl
theorem mw_1070 : (Jvm.Cond.code ({ cls := "MixerStationModel", name := "goValve", desc := "([I)V" } : Jvm.MethodName) prog_8_method_28_code (3 : Nat) (Option.none : Option Jvm.ClassFile.FieldType)) ∈ UW := uw_t5 110 rfl rfl
theorem mw_1071 : (Jvm.Cond.methodLink "MixerStationModel" (87 : Nat) ({ cls := "MixerStationModel", name := "isPinched", desc := "([I)Z" } : Jvm.MethodName)) ∈ UW := uw_t5 111 rfl rfl
theorem mw_1072 : (Jvm.Cond.static ({ cls := "MixerStationModel", name := "isPinched", desc := "([I)Z" } : Jvm.MethodName)) ∈ UW := uw_t5 112 rfl rfl
theorem mw_1073 : (Jvm.Cond.code ({ cls := "MixerStationModel", name := "isPinched", desc := "([I)Z" } : Jvm.MethodName) prog_8_method_27_code (1 : Nat) (Option.some Jvm.ClassFile.FieldType.boolean)) ∈ UW := uw_t5 113 rfl rfl
theorem mw_1074 : (Jvm.Cond.methodLink "MixerStationModel" (84 : Nat) ({ cls := "MixerStationModel", name := "freeTarget", desc := "([I)I" } : Jvm.MethodName)) ∈ UW := uw_t5 114 rfl rfl
theorem mw_1075 : (Jvm.Cond.static ({ cls := "MixerStationModel", name := "freeTarget", desc := "([I)I" } : Jvm.MethodName)) ∈ UW := uw_t5 115 rfl rfl
theorem mw_1076 : (Jvm.Cond.code ({ cls := "MixerStationModel", name := "freeTarget", desc := "([I)I" } : Jvm.MethodName) prog_8_method_26_code (2 : Nat) (Option.some Jvm.ClassFile.FieldType.int)) ∈ UW := uw_t5 116 rfl rfl
theorem mw_1077 : (Jvm.Cond.methodLink "MixerStationModel" (100 : Nat) ({ cls := "MixerStationModel", name := "goMixing", desc := "([I)V" } : Jvm.MethodName)) ∈ UW := uw_t5 117 rfl rfl
theorem mw_1078 : (Jvm.Cond.static ({ cls := "MixerStationModel", name := "goMixing", desc := "([I)V" } : Jvm.MethodName)) ∈ UW := uw_t5 118 rfl rfl
theorem mw_1079 : (Jvm.Cond.code ({ cls := "MixerStationModel", name := "goMixing", desc := "([I)V" } : Jvm.MethodName) prog_8_method_29_code (2 : Nat) (Option.none : Option Jvm.ClassFile.FieldType)) ∈ UW := uw_t5 119 rfl rfl
theorem mw_1080 : (Jvm.Cond.methodLink "MixerStationModel" (103 : Nat) ({ cls := "MixerStationModel", name := "goRadiators", desc := "([II)V" } : Jvm.MethodName)) ∈ UW := uw_t5 120 rfl rfl
theorem mw_1081 : (Jvm.Cond.static ({ cls := "MixerStationModel", name := "goRadiators", desc := "([II)V" } : Jvm.MethodName)) ∈ UW := uw_t5 121 rfl rfl
theorem mw_1082 : (Jvm.Cond.code ({ cls := "MixerStationModel", name := "goRadiators", desc := "([II)V" } : Jvm.MethodName) prog_8_method_30_code (5 : Nat) (Option.none : Option Jvm.ClassFile.FieldType)) ∈ UW := uw_t5 122 rfl rfl
theorem mw_1083 : (Jvm.Cond.methodLink "MixerStationModel" (106 : Nat) ({ cls := "MixerStationModel", name := "goLeak", desc := "([II)V" } : Jvm.MethodName)) ∈ UW := uw_t5 123 rfl rfl
theorem mw_1084 : (Jvm.Cond.static ({ cls := "MixerStationModel", name := "goLeak", desc := "([II)V" } : Jvm.MethodName)) ∈ UW := uw_t5 124 rfl rfl
theorem mw_1085 : (Jvm.Cond.code ({ cls := "MixerStationModel", name := "goLeak", desc := "([II)V" } : Jvm.MethodName) prog_8_method_31_code (4 : Nat) (Option.none : Option Jvm.ClassFile.FieldType)) ∈ UW := uw_t5 125 rfl rfl
theorem mw_1086 : (Jvm.Cond.methodLink "MixerStationModel" (109 : Nat) ({ cls := "MixerStationModel", name := "feels", desc := "([II)Z" } : Jvm.MethodName)) ∈ UW := uw_t5 126 rfl rfl
theorem mw_1087 : (Jvm.Cond.static ({ cls := "MixerStationModel", name := "feels", desc := "([II)Z" } : Jvm.MethodName)) ∈ UW := uw_t5 127 rfl rfl
theorem mw_1088 : (Jvm.Cond.code ({ cls := "MixerStationModel", name := "feels", desc := "([II)Z" } : Jvm.MethodName) prog_8_method_32_code (5 : Nat) (Option.some Jvm.ClassFile.FieldType.boolean)) ∈ UW := uw_t5 128 rfl rfl
theorem mw_1089 : (Jvm.Cond.methodLink "MixerStationLaw" (162 : Nat) ({ cls := "MixerStationModel", name := "undo", desc := "()I" } : Jvm.MethodName)) ∈ UW := uw_t5 129 rfl rfl
theorem mw_1090 : (Jvm.Cond.instanceMethod ({ cls := "MixerStationModel", name := "undo", desc := "()I" } : Jvm.MethodName)) ∈ UW := uw_t5 130 rfl rfl
theorem mw_1091 : (Jvm.Cond.selects "MixerStationModel" ({ cls := "MixerStationModel", name := "undo", desc := "()I" } : Jvm.MethodName) ({ cls := "MixerStationModel", name := "undo", desc := "()I" } : Jvm.MethodName)) ∈ UW := uw_t5 131 rfl rfl
theorem mw_1092 : (Jvm.Cond.code ({ cls := "MixerStationModel", name := "undo", desc := "()I" } : Jvm.MethodName) prog_8_method_63_code (1 : Nat) (Option.some Jvm.ClassFile.FieldType.int)) ∈ UW := uw_t5 132 rfl rfl
theorem mw_1093 : (Jvm.Cond.methodLink "MixerStationLaw" (165 : Nat) ({ cls := "MixerStationModel", name := "ahead", desc := "(II)I" } : Jvm.MethodName)) ∈ UW := uw_t5 133 rfl rfl
theorem mw_1094 : (Jvm.Cond.instanceMethod ({ cls := "MixerStationModel", name := "ahead", desc := "(II)I" } : Jvm.MethodName)) ∈ UW := uw_t5 134 rfl rfl
theorem mw_1095 : (Jvm.Cond.selects "MixerStationModel" ({ cls := "MixerStationModel", name := "ahead", desc := "(II)I" } : Jvm.MethodName) ({ cls := "MixerStationModel", name := "ahead", desc := "(II)I" } : Jvm.MethodName)) ∈ UW := uw_t5 135 rfl rfl
theorem mw_1096 : (Jvm.Cond.code ({ cls := "MixerStationModel", name := "ahead", desc := "(II)I" } : Jvm.MethodName) prog_8_method_65_code (3 : Nat) (Option.some Jvm.ClassFile.FieldType.int)) ∈ UW := uw_t5 136 rfl rfl
theorem mw_1097 : (Jvm.Cond.methodLink "MixerStationModel" (217 : Nat) ({ cls := "MixerStationModel", name := "isAhead", desc := "(I)Z" } : Jvm.MethodName)) ∈ UW := uw_t5 137 rfl rfl
theorem mw_1098 : (Jvm.Cond.static ({ cls := "MixerStationModel", name := "isAhead", desc := "(I)Z" } : Jvm.MethodName)) ∈ UW := uw_t5 138 rfl rfl
theorem mw_1099 : (Jvm.Cond.code ({ cls := "MixerStationModel", name := "isAhead", desc := "(I)Z" } : Jvm.MethodName) prog_8_method_64_code (1 : Nat) (Option.some Jvm.ClassFile.FieldType.boolean)) ∈ UW := uw_t5 139 rfl rfl
theorem mw_1100 : (Jvm.Cond.constantLong "MixerStationModel" (215 : Nat) (240 : Int64)) ∈ UW := uw_t5 140 rfl rfl
theorem mw_1101 : (Jvm.Cond.methodLink "MixerStationModel" (220 : Nat) ({ cls := "MixerStationModel", name := "begin", desc := "()V" } : Jvm.MethodName)) ∈ UW := uw_t5 141 rfl rfl
theorem mw_1103 : (Jvm.Cond.instanceMethod ({ cls := "MixerStationModel", name := "begin", desc := "()V" } : Jvm.MethodName)) ∈ UW := uw_t5 143 rfl rfl
theorem mw_1104 : (Jvm.Cond.code ({ cls := "MixerStationModel", name := "begin", desc := "()V" } : Jvm.MethodName) prog_8_method_12_code (1 : Nat) (Option.none : Option Jvm.ClassFile.FieldType)) ∈ UW := uw_t5 144 rfl rfl
theorem mw_1105 : (Jvm.Cond.methodLink "MixerStationLaw" (168 : Nat) ({ cls := "MixerStationModel", name := "minutesTo", desc := "(I)I" } : Jvm.MethodName)) ∈ UW := uw_t5 145 rfl rfl
theorem mw_1106 : (Jvm.Cond.instanceMethod ({ cls := "MixerStationModel", name := "minutesTo", desc := "(I)I" } : Jvm.MethodName)) ∈ UW := uw_t5 146 rfl rfl
theorem mw_1107 : (Jvm.Cond.selects "MixerStationModel" ({ cls := "MixerStationModel", name := "minutesTo", desc := "(I)I" } : Jvm.MethodName) ({ cls := "MixerStationModel", name := "minutesTo", desc := "(I)I" } : Jvm.MethodName)) ∈ UW := uw_t5 147 rfl rfl
theorem mw_1108 : (Jvm.Cond.code ({ cls := "MixerStationModel", name := "minutesTo", desc := "(I)I" } : Jvm.MethodName) prog_8_method_66_code (3 : Nat) (Option.some Jvm.ClassFile.FieldType.int)) ∈ UW := uw_t5 148 rfl rfl
theorem mw_1109 : (Jvm.Cond.methodLink "MixerStationLaw" (172 : Nat) ({ cls := "MixerStationModel", name := "whyOff", desc := "()I" } : Jvm.MethodName)) ∈ UW := uw_t5 149 rfl rfl
theorem mw_1110 : (Jvm.Cond.instanceMethod ({ cls := "MixerStationModel", name := "whyOff", desc := "()I" } : Jvm.MethodName)) ∈ UW := uw_t5 150 rfl rfl
theorem mw_1111 : (Jvm.Cond.selects "MixerStationModel" ({ cls := "MixerStationModel", name := "whyOff", desc := "()I" } : Jvm.MethodName) ({ cls := "MixerStationModel", name := "whyOff", desc := "()I" } : Jvm.MethodName)) ∈ UW := uw_t5 151 rfl rfl
theorem mw_1112 : (Jvm.Cond.code ({ cls := "MixerStationModel", name := "whyOff", desc := "()I" } : Jvm.MethodName) prog_8_method_67_code (1 : Nat) (Option.some Jvm.ClassFile.FieldType.int)) ∈ UW := uw_t5 152 rfl rfl
theorem mw_1113 : (Jvm.Cond.methodLink "MixerStationLaw" (176 : Nat) ({ cls := "MixerStationModel", name := "whyShare", desc := "()I" } : Jvm.MethodName)) ∈ UW := uw_t5 153 rfl rfl
theorem mw_1114 : (Jvm.Cond.instanceMethod ({ cls := "MixerStationModel", name := "whyShare", desc := "()I" } : Jvm.MethodName)) ∈ UW := uw_t5 154 rfl rfl
theorem mw_1115 : (Jvm.Cond.selects "MixerStationModel" ({ cls := "MixerStationModel", name := "whyShare", desc := "()I" } : Jvm.MethodName) ({ cls := "MixerStationModel", name := "whyShare", desc := "()I" } : Jvm.MethodName)) ∈ UW := uw_t5 155 rfl rfl
theorem mw_1116 : (Jvm.Cond.code ({ cls := "MixerStationModel", name := "whyShare", desc := "()I" } : Jvm.MethodName) prog_8_method_68_code (3 : Nat) (Option.some Jvm.ClassFile.FieldType.int)) ∈ UW := uw_t5 156 rfl rfl
theorem mw_1117 : (Jvm.Cond.methodLink "MixerStationLaw" (179 : Nat) ({ cls := "MixerStationModel", name := "bestSlope", desc := "(I)I" } : Jvm.MethodName)) ∈ UW := uw_t5 157 rfl rfl
theorem mw_1118 : (Jvm.Cond.instanceMethod ({ cls := "MixerStationModel", name := "bestSlope", desc := "(I)I" } : Jvm.MethodName)) ∈ UW := uw_t5 158 rfl rfl
theorem mw_1119 : (Jvm.Cond.selects "MixerStationModel" ({ cls := "MixerStationModel", name := "bestSlope", desc := "(I)I" } : Jvm.MethodName) ({ cls := "MixerStationModel", name := "bestSlope", desc := "(I)I" } : Jvm.MethodName)) ∈ UW := uw_t5 159 rfl rfl
theorem mw_1120 : (Jvm.Cond.code ({ cls := "MixerStationModel", name := "bestSlope", desc := "(I)I" } : Jvm.MethodName) prog_8_method_69_code (6 : Nat) (Option.some Jvm.ClassFile.FieldType.int)) ∈ UW := uw_t5 160 rfl rfl
theorem mw_1121 : (Jvm.Cond.methodLink "MixerStationLaw" (182 : Nat) ({ cls := "MixerStationModel", name := "leastPower", desc := "(I)I" } : Jvm.MethodName)) ∈ UW := uw_t5 161 rfl rfl
theorem mw_1122 : (Jvm.Cond.instanceMethod ({ cls := "MixerStationModel", name := "leastPower", desc := "(I)I" } : Jvm.MethodName)) ∈ UW := uw_t5 162 rfl rfl
theorem mw_1123 : (Jvm.Cond.selects "MixerStationModel" ({ cls := "MixerStationModel", name := "leastPower", desc := "(I)I" } : Jvm.MethodName) ({ cls := "MixerStationModel", name := "leastPower", desc := "(I)I" } : Jvm.MethodName)) ∈ UW := uw_t5 163 rfl rfl
theorem mw_1124 : (Jvm.Cond.code ({ cls := "MixerStationModel", name := "leastPower", desc := "(I)I" } : Jvm.MethodName) prog_8_method_71_code (3 : Nat) (Option.some Jvm.ClassFile.FieldType.int)) ∈ UW := uw_t5 164 rfl rfl
theorem mw_1125 : (Jvm.Cond.methodLink "MixerStationModel" (223 : Nat) ({ cls := "MixerStationModel", name := "allReach", desc := "(I)Z" } : Jvm.MethodName)) ∈ UW := uw_t5 165 rfl rfl
theorem mw_1127 : (Jvm.Cond.instanceMethod ({ cls := "MixerStationModel", name := "allReach", desc := "(I)Z" } : Jvm.MethodName)) ∈ UW := uw_t5 167 rfl rfl
theorem mw_1128 : (Jvm.Cond.code ({ cls := "MixerStationModel", name := "allReach", desc := "(I)Z" } : Jvm.MethodName) prog_8_method_70_code (5 : Nat) (Option.some Jvm.ClassFile.FieldType.boolean)) ∈ UW := uw_t5 168 rfl rfl
theorem mw_1129 : (Jvm.Cond.methodLink "MixerStationLaw" (185 : Nat) ({ cls := "MixerStationModel", name := "heatFor", desc := "(I)I" } : Jvm.MethodName)) ∈ UW := uw_t5 169 rfl rfl
theorem mw_1130 : (Jvm.Cond.instanceMethod ({ cls := "MixerStationModel", name := "heatFor", desc := "(I)I" } : Jvm.MethodName)) ∈ UW := uw_t5 170 rfl rfl
theorem mw_1131 : (Jvm.Cond.selects "MixerStationModel" ({ cls := "MixerStationModel", name := "heatFor", desc := "(I)I" } : Jvm.MethodName) ({ cls := "MixerStationModel", name := "heatFor", desc := "(I)I" } : Jvm.MethodName)) ∈ UW := uw_t5 171 rfl rfl
theorem mw_1132 : (Jvm.Cond.code ({ cls := "MixerStationModel", name := "heatFor", desc := "(I)I" } : Jvm.MethodName) prog_8_method_72_code (2 : Nat) (Option.some Jvm.ClassFile.FieldType.int)) ∈ UW := uw_t5 172 rfl rfl
theorem mw_1133 : (Jvm.Cond.methodLink "MixerStationLaw" (191 : Nat) ({ cls := "MixerStationModel", name := "runScript", desc := "(IJ)I" } : Jvm.MethodName)) ∈ UW := uw_t5 173 rfl rfl
theorem mw_1134 : (Jvm.Cond.instanceMethod ({ cls := "MixerStationModel", name := "runScript", desc := "(IJ)I" } : Jvm.MethodName)) ∈ UW := uw_t5 174 rfl rfl
theorem mw_1135 : (Jvm.Cond.selects "MixerStationModel" ({ cls := "MixerStationModel", name := "runScript", desc := "(IJ)I" } : Jvm.MethodName) ({ cls := "MixerStationModel", name := "runScript", desc := "(IJ)I" } : Jvm.MethodName)) ∈ UW := uw_t5 175 rfl rfl
theorem mw_1136 : (Jvm.Cond.code ({ cls := "MixerStationModel", name := "runScript", desc := "(IJ)I" } : Jvm.MethodName) prog_8_method_74_code (6 : Nat) (Option.some Jvm.ClassFile.FieldType.int)) ∈ UW := uw_t5 176 rfl rfl
theorem mw_1137 : (Jvm.Cond.constantLong "MixerStationModel" (226 : Nat) (4 : Int64)) ∈ UW := uw_t5 177 rfl rfl
theorem mw_1138 : (Jvm.Cond.methodLink "MixerStationModel" (228 : Nat) ({ cls := "MixerStationModel", name := "tenTo", desc := "(I)J" } : Jvm.MethodName)) ∈ UW := uw_t5 178 rfl rfl
theorem mw_1139 : (Jvm.Cond.static ({ cls := "MixerStationModel", name := "tenTo", desc := "(I)J" } : Jvm.MethodName)) ∈ UW := uw_t5 179 rfl rfl
theorem mw_1140 : (Jvm.Cond.code ({ cls := "MixerStationModel", name := "tenTo", desc := "(I)J" } : Jvm.MethodName) prog_8_method_6_code (4 : Nat) (Option.some Jvm.ClassFile.FieldType.long)) ∈ UW := uw_t5 180 rfl rfl
theorem mw_1141 : (Jvm.Cond.constantLong "MixerStationModel" (232 : Nat) (10000 : Int64)) ∈ UW := uw_t5 181 rfl rfl
theorem mw_1142 : (Jvm.Cond.methodLink "MixerStationModel" (234 : Nat) ({ cls := "MixerStationModel", name := "does", desc := "(I)Z" } : Jvm.MethodName)) ∈ UW := uw_t5 182 rfl rfl
theorem mw_1144 : (Jvm.Cond.instanceMethod ({ cls := "MixerStationModel", name := "does", desc := "(I)Z" } : Jvm.MethodName)) ∈ UW := uw_t5 184 rfl rfl
theorem mw_1145 : (Jvm.Cond.code ({ cls := "MixerStationModel", name := "does", desc := "(I)Z" } : Jvm.MethodName) prog_8_method_73_code (7 : Nat) (Option.some Jvm.ClassFile.FieldType.boolean)) ∈ UW := uw_t5 185 rfl rfl
theorem mw_1146 : (Jvm.Cond.methodLink "MixerStationLaw" (195 : Nat) ({ cls := "MixerStationModel", name := "simulate", desc := "(JI)J" } : Jvm.MethodName)) ∈ UW := uw_t5 186 rfl rfl
theorem mw_1147 : (Jvm.Cond.instanceMethod ({ cls := "MixerStationModel", name := "simulate", desc := "(JI)J" } : Jvm.MethodName)) ∈ UW := uw_t5 187 rfl rfl
theorem mw_1148 : (Jvm.Cond.selects "MixerStationModel" ({ cls := "MixerStationModel", name := "simulate", desc := "(JI)J" } : Jvm.MethodName) ({ cls := "MixerStationModel", name := "simulate", desc := "(JI)J" } : Jvm.MethodName)) ∈ UW := uw_t5 188 rfl rfl
theorem mw_1149 : (Jvm.Cond.code ({ cls := "MixerStationModel", name := "simulate", desc := "(JI)J" } : Jvm.MethodName) prog_8_method_75_code (10 : Nat) (Option.some Jvm.ClassFile.FieldType.long)) ∈ UW := uw_t5 189 rfl rfl
theorem mw_1150 : (Jvm.Cond.constantLong "MixerStationModel" (237 : Nat) (6364136223846793005 : Int64)) ∈ UW := uw_t5 190 rfl rfl
theorem mw_1151 : (Jvm.Cond.constantLong "MixerStationModel" (239 : Nat) (1442695040888963407 : Int64)) ∈ UW := uw_t5 191 rfl rfl
theorem mw_1152 : (Jvm.Cond.constantLong "MixerStationModel" (241 : Nat) (1000000 : Int64)) ∈ UW := uw_t5 192 rfl rfl
theorem mw_1153 : (Jvm.Cond.methodLink "MixerStationLaw" (198 : Nat) ({ cls := "MixerStationModel", name := "save", desc := "(I)I" } : Jvm.MethodName)) ∈ UW := uw_t5 193 rfl rfl
theorem mw_1154 : (Jvm.Cond.instanceMethod ({ cls := "MixerStationModel", name := "save", desc := "(I)I" } : Jvm.MethodName)) ∈ UW := uw_t5 194 rfl rfl
theorem mw_1155 : (Jvm.Cond.selects "MixerStationModel" ({ cls := "MixerStationModel", name := "save", desc := "(I)I" } : Jvm.MethodName) ({ cls := "MixerStationModel", name := "save", desc := "(I)I" } : Jvm.MethodName)) ∈ UW := uw_t5 195 rfl rfl
theorem mw_1156 : (Jvm.Cond.code ({ cls := "MixerStationModel", name := "save", desc := "(I)I" } : Jvm.MethodName) prog_8_method_76_code (2 : Nat) (Option.some Jvm.ClassFile.FieldType.int)) ∈ UW := uw_t5 196 rfl rfl
theorem mw_1157 : (Jvm.Cond.methodLink "MixerStationLaw" (201 : Nat) ({ cls := "MixerStationModel", name := "restore", desc := "(I)I" } : Jvm.MethodName)) ∈ UW := uw_t5 197 rfl rfl
theorem mw_1158 : (Jvm.Cond.instanceMethod ({ cls := "MixerStationModel", name := "restore", desc := "(I)I" } : Jvm.MethodName)) ∈ UW := uw_t5 198 rfl rfl
theorem mw_1159 : (Jvm.Cond.selects "MixerStationModel" ({ cls := "MixerStationModel", name := "restore", desc := "(I)I" } : Jvm.MethodName) ({ cls := "MixerStationModel", name := "restore", desc := "(I)I" } : Jvm.MethodName)) ∈ UW := uw_t5 199 rfl rfl
theorem mw_1160 : (Jvm.Cond.code ({ cls := "MixerStationModel", name := "restore", desc := "(I)I" } : Jvm.MethodName) prog_8_method_77_code (2 : Nat) (Option.some Jvm.ClassFile.FieldType.int)) ∈ UW := uw_t5 200 rfl rfl
theorem mw_1161 : (Jvm.Cond.constantLong "MixerStationLaw" (186 : Nat) (4294967295 : Int64)) ∈ UW := uw_t5 201 rfl rfl
theorem mw_1162 : (Jvm.Cond.arrayClass Jvm.ClassFile.FieldType.long) ∈ UW := uw_t5 202 rfl rfl
theorem ms_0 : Cond.selects "MixerStation$StationReader" ⟨"MixerStation$StationReader", "readHead", "(LMixerStation$State;)Z"⟩ ⟨"MixerStation$StationReader", "readHead", "(LMixerStation$State;)Z"⟩ ∈ UW := uw_in (List.mem_append_left _ (List.mem_of_getElem? (l := k2_sels lw_privs) (i := 0) rfl)) rfl
theorem ms_1 : Cond.selects "MixerStation$StationReader" ⟨"MixerStation$StationReader", "here", "()I"⟩ ⟨"MixerStation$StationReader", "here", "()I"⟩ ∈ UW := uw_in (List.mem_append_left _ (List.mem_of_getElem? (l := k2_sels lw_privs) (i := 1) rfl)) rfl
theorem ms_2 : Cond.selects "MixerStation$StationReader" ⟨"MixerStation$StationReader", "readSetting", "(LMixerStation$State;II)Z"⟩ ⟨"MixerStation$StationReader", "readSetting", "(LMixerStation$State;II)Z"⟩ ∈ UW := uw_in (List.mem_append_left _ (List.mem_of_getElem? (l := k2_sels lw_privs) (i := 2) rfl)) rfl
theorem ms_3 : Cond.selects "MixerStation$StationReader" ⟨"MixerStation$StationReader", "readNumber", "(III)I"⟩ ⟨"MixerStation$StationReader", "readNumber", "(III)I"⟩ ∈ UW := uw_in (List.mem_append_left _ (List.mem_of_getElem? (l := k2_sels lw_privs) (i := 3) rfl)) rfl
theorem ms_4 : Cond.selects "MixerStation$StationReader" ⟨"MixerStation$StationReader", "readPart", "(LMixerStation$State;)Z"⟩ ⟨"MixerStation$StationReader", "readPart", "(LMixerStation$State;)Z"⟩ ∈ UW := uw_in (List.mem_append_left _ (List.mem_of_getElem? (l := k2_sels lw_privs) (i := 4) rfl)) rfl
theorem ms_5 : Cond.selects "MixerStation$StationReader" ⟨"MixerStation$StationReader", "readRoom", "(LMixerStation$State;)Z"⟩ ⟨"MixerStation$StationReader", "readRoom", "(LMixerStation$State;)Z"⟩ ∈ UW := uw_in (List.mem_append_left _ (List.mem_of_getElem? (l := k2_sels lw_privs) (i := 5) rfl)) rfl
theorem ms_6 : Cond.selects "MixerStation$State" ⟨"MixerStation$State", "move", "(III)V"⟩ ⟨"MixerStation$State", "move", "(III)V"⟩ ∈ UW := uw_in (List.mem_append_left _ (List.mem_of_getElem? (l := k2_sels lw_privs) (i := 6) rfl)) rfl
theorem ms_7 : Cond.selects "MixerStation$State" ⟨"MixerStation$State", "addHeat", "(II)V"⟩ ⟨"MixerStation$State", "addHeat", "(II)V"⟩ ∈ UW := uw_in (List.mem_append_left _ (List.mem_of_getElem? (l := k2_sels lw_privs) (i := 7) rfl)) rfl
theorem ms_8 : Cond.selects "MixerStation$StationReader" ⟨"MixerStation$StationReader", "readOutside", "(LMixerStation$State;)Z"⟩ ⟨"MixerStation$StationReader", "readOutside", "(LMixerStation$State;)Z"⟩ ∈ UW := uw_in (List.mem_append_left _ (List.mem_of_getElem? (l := k2_sels lw_privs) (i := 8) rfl)) rfl
theorem ms_9 : Cond.selects "MixerStation$State" ⟨"MixerStation$State", "mustStop", "()Z"⟩ ⟨"MixerStation$State", "mustStop", "()Z"⟩ ∈ UW := uw_in (List.mem_append_left _ (List.mem_of_getElem? (l := k2_sels lw_privs) (i := 9) rfl)) rfl
theorem ms_10 : Cond.selects "MixerStation$State" ⟨"MixerStation$State", "mayStart", "()Z"⟩ ⟨"MixerStation$State", "mayStart", "()Z"⟩ ∈ UW := uw_in (List.mem_append_left _ (List.mem_of_getElem? (l := k2_sels lw_privs) (i := 10) rfl)) rfl
theorem ms_11 : Cond.selects "java/lang/Throwable" ⟨"java/lang/Throwable", "fillInStackTrace", "(I)Ljava/lang/Throwable;"⟩ ⟨"java/lang/Throwable", "fillInStackTrace", "(I)Ljava/lang/Throwable;"⟩ ∈ UW := uw_in (List.mem_append_left _ (List.mem_of_getElem? (l := k2_sels lw_privs) (i := 11) rfl)) rfl
theorem ms_12 : Cond.selects "MixerStation$History" ⟨"MixerStation$History", "forgetOldest", "()V"⟩ ⟨"MixerStation$History", "forgetOldest", "()V"⟩ ∈ UW := uw_in (List.mem_append_left _ (List.mem_of_getElem? (l := k2_sels lw_privs) (i := 12) rfl)) rfl
theorem ms_13 : Cond.selects "MixerStation$State" ⟨"MixerStation$State", "mix", "()V"⟩ ⟨"MixerStation$State", "mix", "()V"⟩ ∈ UW := uw_in (List.mem_append_left _ (List.mem_of_getElem? (l := k2_sels lw_privs) (i := 13) rfl)) rfl
theorem ms_14 : Cond.selects "MixerStation$State" ⟨"MixerStation$State", "heatRooms", "()V"⟩ ⟨"MixerStation$State", "heatRooms", "()V"⟩ ∈ UW := uw_in (List.mem_append_left _ (List.mem_of_getElem? (l := k2_sels lw_privs) (i := 14) rfl)) rfl
theorem ms_15 : Cond.selects "MixerStation$State" ⟨"MixerStation$State", "leakRooms", "()V"⟩ ⟨"MixerStation$State", "leakRooms", "()V"⟩ ∈ UW := uw_in (List.mem_append_left _ (List.mem_of_getElem? (l := k2_sels lw_privs) (i := 15) rfl)) rfl
theorem ms_16 : Cond.selects "MixerStation$State" ⟨"MixerStation$State", "judgeRooms", "()V"⟩ ⟨"MixerStation$State", "judgeRooms", "()V"⟩ ∈ UW := uw_in (List.mem_append_left _ (List.mem_of_getElem? (l := k2_sels lw_privs) (i := 16) rfl)) rfl
theorem ms_17 : Cond.selects "MixerStationModel" ⟨"MixerStationModel", "refused", "(I)Z"⟩ ⟨"MixerStationModel", "refused", "(I)Z"⟩ ∈ UW := uw_in (List.mem_append_left _ (List.mem_of_getElem? (l := k2_sels lw_privs) (i := 17) rfl)) rfl
theorem ms_18 : Cond.selects "MixerStationModel" ⟨"MixerStationModel", "readText", "()I"⟩ ⟨"MixerStationModel", "readText", "()I"⟩ ∈ UW := uw_in (List.mem_append_left _ (List.mem_of_getElem? (l := k2_sels lw_privs) (i := 18) rfl)) rfl
theorem ms_19 : Cond.selects "MixerStationModel" ⟨"MixerStationModel", "isNext", "(I)Z"⟩ ⟨"MixerStationModel", "isNext", "(I)Z"⟩ ∈ UW := uw_in (List.mem_append_left _ (List.mem_of_getElem? (l := k2_sels lw_privs) (i := 19) rfl)) rfl
theorem ms_20 : Cond.selects "MixerStationModel" ⟨"MixerStationModel", "accept", "(Z)V"⟩ ⟨"MixerStationModel", "accept", "(Z)V"⟩ ∈ UW := uw_in (List.mem_append_left _ (List.mem_of_getElem? (l := k2_sels lw_privs) (i := 20) rfl)) rfl
theorem ms_21 : Cond.selects "MixerStationModel" ⟨"MixerStationModel", "digit", "(II)I"⟩ ⟨"MixerStationModel", "digit", "(II)I"⟩ ∈ UW := uw_in (List.mem_append_left _ (List.mem_of_getElem? (l := k2_sels lw_privs) (i := 21) rfl)) rfl
theorem ms_22 : Cond.selects "MixerStationModel" ⟨"MixerStationModel", "two", "(II)I"⟩ ⟨"MixerStationModel", "two", "(II)I"⟩ ∈ UW := uw_in (List.mem_append_left _ (List.mem_of_getElem? (l := k2_sels lw_privs) (i := 22) rfl)) rfl
theorem ms_23 : Cond.selects "MixerStationModel" ⟨"MixerStationModel", "readRoom", "()V"⟩ ⟨"MixerStationModel", "readRoom", "()V"⟩ ∈ UW := uw_in (List.mem_append_left _ (List.mem_of_getElem? (l := k2_sels lw_privs) (i := 23) rfl)) rfl
theorem ms_24 : Cond.selects "MixerStationModel" ⟨"MixerStationModel", "readOutside", "()V"⟩ ⟨"MixerStationModel", "readOutside", "()V"⟩ ∈ UW := uw_in (List.mem_append_left _ (List.mem_of_getElem? (l := k2_sels lw_privs) (i := 24) rfl)) rfl
theorem ms_25 : Cond.selects "MixerStationModel" ⟨"MixerStationModel", "readSetting", "()V"⟩ ⟨"MixerStationModel", "readSetting", "()V"⟩ ∈ UW := uw_in (List.mem_append_left _ (List.mem_of_getElem? (l := k2_sels lw_privs) (i := 25) rfl)) rfl
theorem ms_26 : Cond.selects "MixerStationModel" ⟨"MixerStationModel", "isWarmPlace", "(I)Z"⟩ ⟨"MixerStationModel", "isWarmPlace", "(I)Z"⟩ ∈ UW := uw_in (List.mem_append_left _ (List.mem_of_getElem? (l := k2_sels lw_privs) (i := 26) rfl)) rfl
theorem ms_27 : Cond.selects "MixerStationModel" ⟨"MixerStationModel", "isRoom", "(I)Z"⟩ ⟨"MixerStationModel", "isRoom", "(I)Z"⟩ ∈ UW := uw_in (List.mem_append_left _ (List.mem_of_getElem? (l := k2_sels lw_privs) (i := 27) rfl)) rfl
theorem ms_28 : Cond.selects "MixerStationModel" ⟨"MixerStationModel", "note", "()V"⟩ ⟨"MixerStationModel", "note", "()V"⟩ ∈ UW := uw_in (List.mem_append_left _ (List.mem_of_getElem? (l := k2_sels lw_privs) (i := 28) rfl)) rfl
theorem ms_29 : Cond.selects "MixerStationModel" ⟨"MixerStationModel", "begin", "()V"⟩ ⟨"MixerStationModel", "begin", "()V"⟩ ∈ UW := uw_in (List.mem_append_left _ (List.mem_of_getElem? (l := k2_sels lw_privs) (i := 29) rfl)) rfl
theorem ms_30 : Cond.selects "MixerStationModel" ⟨"MixerStationModel", "allReach", "(I)Z"⟩ ⟨"MixerStationModel", "allReach", "(I)Z"⟩ ∈ UW := uw_in (List.mem_append_left _ (List.mem_of_getElem? (l := k2_sels lw_privs) (i := 30) rfl)) rfl
theorem ms_31 : Cond.selects "MixerStationModel" ⟨"MixerStationModel", "does", "(I)Z"⟩ ⟨"MixerStationModel", "does", "(I)Z"⟩ ∈ UW := uw_in (List.mem_append_left _ (List.mem_of_getElem? (l := k2_sels lw_privs) (i := 31) rfl)) rfl
