abbrev oX0 (b : Nat → Nat) (v0 : Int32) (v1 : Int32) (v2 : Int32) (v3 : Int32) (v4 : Int32) (v5 : Int32) (v6 : Int32) (v7 : Int32) (v8 : Int32) (v9 : Int32) : va_E := .inr (0, [.int v0, .int v1, .int v2, .int v3, .int v4, .int v5, .int v6, .int v7, .int v8, .int v9, .ref (b 10), .ref (b 11), .ref (b 12), .ref (b 13), .ref (b 14), .ref (b 15), .ref (b 16), .ref (b 17), .ref (b 18)])
abbrev oX1 (b : Nat → Nat) (v2 : Int32) : va_E := .inr (1, [.ref (b 0), .ref (b 1), .int v2])
abbrev oX2 (b : Nat → Nat) (v0 : Int64) (v1 : Int64) : va_E := .inr (2, [.long v0, .long v1])
abbrev oX3 (b : Nat → Nat) (v0 : Int64) (v1 : Int64) (v2 : Int64) : va_E := .inr (3, [.long v0, .long v1, .long v2])
abbrev oX4 (b : Nat → Nat) (v0 : Int32) (v1 : Int32) (v4 : Int32) (v5 : Int32) (v6 : Int32) : va_E := .inr (4, [.int v0, .int v1, .ref (b 2), .ref (b 3), .int v4, .int v5, .int v6])
abbrev oX5 (b : Nat → Nat)  : va_E := .inr (5, [.ref (b 0), .ref (b 1), .ref (b 2), .ref (b 3)])
abbrev oX6 (b : Nat → Nat) (v10 : Int64) (v11 : Int32) : va_E := .inr (6, [.ref (b 0), .ref (b 1), .ref (b 2), .ref (b 3), .ref (b 4), .ref (b 5), .ref (b 6), .ref (b 7), .ref (b 8), .ref (b 9), .long v10, .int v11])
abbrev oX7 (b : Nat → Nat) (v0 : Int32) (v1 : Int32) (v2 : Int64) (v3 : Int32) (v4 : Int32) (v5 : Int32) : va_E := .inr (7, [.int v0, .int v1, .long v2, .int v3, .int v4, .int v5])
abbrev oX8 (b : Nat → Nat) (v1 : Int32) : va_E := .inr (8, [.ref (b 0), .int v1])
abbrev oX9 (b : Nat → Nat)  : va_E := .inr (9, [.ref (b 0), .ref (b 1), .ref (b 2), .ref (b 3), .ref (b 4), .ref (b 5), .ref (b 6), .ref (b 7), .ref (b 8), .ref (b 9), .ref (b 10)])
abbrev oX10 (b : Nat → Nat) (v0 : Int32) (v5 : Int32) (v7 : Int32) (v8 : Int32) (v9 : Int32) (v10 : Int32) (v11 : Int32) (v12 : Int32) (v13 : Int32) (v17 : Int32) (v18 : Int32) (v19 : Int32) (v20 : Int32) (v36 : Int32) (v38 : Int32) (v39 : Int64) (v40 : Int64) (v41 : Int64) : va_E := .inr (10, [.int v0, .ref (b 1), .ref (b 2), .ref (b 3), .ref (b 4), .int v5, .ref (b 6), .int v7, .int v8, .int v9, .int v10, .int v11, .int v12, .int v13, .ref (b 14), .ref (b 15), .ref (b 16), .int v17, .int v18, .int v19, .int v20, .ref (b 21), .ref (b 22), .ref (b 23), .ref (b 24), .ref (b 25), .ref (b 26), .ref (b 27), .ref (b 28), .ref (b 29), .ref (b 30), .ref (b 31), .ref (b 32), .ref (b 33), .ref (b 34), .ref (b 35), .int v36, .ref (b 37), .int v38, .long v39, .long v40, .long v41, .ref (b 42), .ref (b 43), .ref (b 44), .ref (b 45)])
theorem wp_0 : Cond.selects "WidowRoads$Tape" yX8_put yX8_put ∈ GW := GW_p 0 (by decide +kernel) rfl
theorem wp_1 : Cond.selects "WidowRoads$Reader" yX4_read yX4_read ∈ GW := GW_p 1 (by decide +kernel) rfl
theorem wp_2 : Cond.selects "WidowRoads$Colony" yX0_clear yX0_clear ∈ GW := GW_p 2 (by decide +kernel) rfl
theorem wp_3 : Cond.selects "WidowRoads$Reader" yX4_next yX4_next ∈ GW := GW_p 3 (by decide +kernel) rfl
theorem wp_4 : Cond.selects "WidowRoads$Tape" yX8_byteAt yX8_byteAt ∈ GW := GW_p 4 (by decide +kernel) rfl
theorem wp_12 : Cond.selects "WidowRoads$Colony" yX0_creekBits yX0_creekBits ∈ GW := GW_p 12 (by decide +kernel) rfl
theorem wp_20 : Cond.selects "WidowRoads$Colony" yX0_become yX0_become ∈ GW := GW_p 20 (by decide +kernel) rfl
theorem wp_21 : Cond.selects "WidowRoads" yX9_walkAnew yX9_walkAnew ∈ GW := GW_p 21 (by decide +kernel) rfl
theorem wp_22 : Cond.selects "WidowRoads$Supposal" yX7_asNow yX7_asNow ∈ GW := GW_p 22 (by decide +kernel) rfl
theorem wp_23 : Cond.selects "WidowRoads$Colony" yX0_walkerBits yX0_walkerBits ∈ GW := GW_p 23 (by decide +kernel) rfl
theorem wp_24 : Cond.selects "WidowRoads$Story" yX6_tell yX6_tell ∈ GW := GW_p 24 (by decide +kernel) rfl
theorem wp_25 : Cond.selects "WidowRoads$Story" yX6_begin yX6_begin ∈ GW := GW_p 25 (by decide +kernel) rfl
theorem wp_26 : Cond.selects "WidowRoads$Colony" yX0_field yX0_field ∈ GW := GW_p 26 (by decide +kernel) rfl
theorem wp_34 : Cond.selects "WidowRoads$Colony" yX0_spotOf yX0_spotOf ∈ GW := GW_p 34 (by decide +kernel) rfl
theorem wp_35 : Cond.selects "WidowRoads$Colony" yX0_hasWidow yX0_hasWidow ∈ GW := GW_p 35 (by decide +kernel) rfl
theorem wp_39 : Cond.selects "WidowRoads$Colony" yX0_hasYear yX0_hasYear ∈ GW := GW_p 39 (by decide +kernel) rfl
theorem wp_54 : Cond.selects "WidowRoads$Colony" yX0_hasHouse yX0_hasHouse ∈ GW := GW_p 54 (by decide +kernel) rfl
theorem wp_58 : Cond.selects "WidowRoads" yX9_refusalOfSeen yX9_refusalOfSeen ∈ GW := GW_p 58 (by decide +kernel) rfl
theorem wp_59 : Cond.selects "WidowRoads" yX9_refusalOfRow yX9_refusalOfRow ∈ GW := GW_p 59 (by decide +kernel) rfl
theorem wp_60 : Cond.selects "WidowRoads$Rows" yX5_empty yX5_empty ∈ GW := GW_p 60 (by decide +kernel) rfl
theorem wp_70 : Cond.selects "WidowRoads" yX9_areTwo yX9_areTwo ∈ GW := GW_p 70 (by decide +kernel) rfl
theorem wp_78 : Cond.selects "WidowRoads$Rows" yX5_many yX5_many ∈ GW := GW_p 78 (by decide +kernel) rfl
theorem wp_79 : Cond.selects "WidowRoads$Rows" yX5_clear yX5_clear ∈ GW := GW_p 79 (by decide +kernel) rfl
theorem wp_83 : Cond.selects "WidowRoadsModel" yX10_advance yX10_advance ∈ GW := GW_p 83 (by decide +kernel) rfl
theorem wp_84 : Cond.selects "WidowRoadsModel" yX10_see yX10_see ∈ GW := GW_p 84 (by decide +kernel) rfl
theorem wp_85 : Cond.selects "WidowRoadsModel" yX10_good yX10_good ∈ GW := GW_p 85 (by decide +kernel) rfl
theorem wp_101 : Cond.selects "WidowRoadsModel" yX10_isWidow yX10_isWidow ∈ GW := GW_p 101 (by decide +kernel) rfl
theorem wp_102 : Cond.selects "WidowRoadsModel" yX10_widows yX10_widows ∈ GW := GW_p 102 (by decide +kernel) rfl
theorem wp_103 : Cond.selects "WidowRoadsModel" yX10_widowOf yX10_widowOf ∈ GW := GW_p 103 (by decide +kernel) rfl
theorem wp_104 : Cond.selects "WidowRoadsModel" yX10_asksCell yX10_asksCell ∈ GW := GW_p 104 (by decide +kernel) rfl
theorem wp_105 : Cond.selects "WidowRoadsModel" yX10_asksColony yX10_asksColony ∈ GW := GW_p 105 (by decide +kernel) rfl
theorem wp_106 : Cond.selects "WidowRoadsModel" yX10_asItIs yX10_asItIs ∈ GW := GW_p 106 (by decide +kernel) rfl
theorem wp_107 : Cond.selects "WidowRoadsModel" yX10_allWidows yX10_allWidows ∈ GW := GW_p 107 (by decide +kernel) rfl
theorem wp_108 : Cond.selects "WidowRoadsModel" yX10_goAll yX10_goAll ∈ GW := GW_p 108 (by decide +kernel) rfl
theorem wp_109 : Cond.selects "WidowRoadsModel" yX10_years yX10_years ∈ GW := GW_p 109 (by decide +kernel) rfl
theorem wp_110 : Cond.selects "WidowRoadsModel" yX10_keepYear yX10_keepYear ∈ GW := GW_p 110 (by decide +kernel) rfl
theorem wp_117 : Cond.selects "WidowRoadsModel" yX10_houses yX10_houses ∈ GW := GW_p 117 (by decide +kernel) rfl
theorem wp_119 : Cond.selects "WidowRoadsModel" yX10_isCell yX10_isCell ∈ GW := GW_p 119 (by decide +kernel) rfl
theorem wp_120 : Cond.selects "WidowRoadsModel" yX10_isColony yX10_isColony ∈ GW := GW_p 120 (by decide +kernel) rfl
theorem wp_122 : Cond.selects "WidowRoadsModel" yX10_asksWidow yX10_asksWidow ∈ GW := GW_p 122 (by decide +kernel) rfl
theorem wp_128 : Cond.selects "WidowRoadsModel" yX10_asksYear yX10_asksYear ∈ GW := GW_p 128 (by decide +kernel) rfl
theorem wp_129 : Cond.selects "WidowRoadsModel" yX10_isYear yX10_isYear ∈ GW := GW_p 129 (by decide +kernel) rfl
theorem wp_142 : Cond.selects "WidowRoadsModel" yX10_isHouseTold yX10_isHouseTold ∈ GW := GW_p 142 (by decide +kernel) rfl
theorem wp_146 : Cond.selects "WidowRoadsModel" yX10_askSeen_ yX10_askSeen_ ∈ GW := GW_p 146 (by decide +kernel) rfl
theorem wp_147 : Cond.selects "WidowRoadsModel" yX10_askSeen yX10_askSeen ∈ GW := GW_p 147 (by decide +kernel) rfl
theorem wp_154 : Cond.selects "WidowRoadsModel" yX10_beginSets yX10_beginSets ∈ GW := GW_p 154 (by decide +kernel) rfl
theorem wp_156 : Cond.selects "WidowRoadsModel" yX10_areTwo yX10_areTwo ∈ GW := GW_p 156 (by decide +kernel) rfl
theorem w_1 : Jvm.Cond.initialized "WidowRoads" ∈ GW := GW_t 1 (by decide +kernel) rfl
theorem w_2 : Jvm.Cond.initialized "WidowRoads$Reader" ∈ GW := GW_t 2 (by decide +kernel) rfl
theorem w_3 : Jvm.Cond.initialized "WidowRoads$Tape" ∈ GW := GW_t 3 (by decide +kernel) rfl
theorem w_4 : Jvm.Cond.initialized "WidowRoads$Colony" ∈ GW := GW_t 4 (by decide +kernel) rfl
theorem w_5 : Jvm.Cond.initialized "WidowRoads$Supposal" ∈ GW := GW_t 5 (by decide +kernel) rfl
theorem w_6 : Jvm.Cond.initialized "WidowRoads$Story" ∈ GW := GW_t 6 (by decide +kernel) rfl
theorem w_7 : Jvm.Cond.initialized "WidowRoads$Evenings" ∈ GW := GW_t 7 (by decide +kernel) rfl
theorem w_8 : Jvm.Cond.initialized "WidowRoads$Net" ∈ GW := GW_t 8 (by decide +kernel) rfl
theorem w_9 : Jvm.Cond.initialized "WidowRoads$Rows" ∈ GW := GW_t 9 (by decide +kernel) rfl
theorem w_10 : Jvm.Cond.initialized "WidowRoads$Fraction" ∈ GW := GW_t 10 (by decide +kernel) rfl
theorem w_11 : Jvm.Cond.initialized "WidowRoadsModel" ∈ GW := GW_t 11 (by decide +kernel) rfl
theorem w_17 : Jvm.Cond.initialized "java/lang/System" ∈ GW := GW_t 17 (by decide +kernel) rfl
theorem w_20 : Jvm.Cond.classLink "WidowRoadsLaw" (7 : Nat) "WidowRoads" ∈ GW := GW_t 20 (by decide +kernel) rfl
theorem w_21 : Jvm.Cond.instantiable "WidowRoads" (11 : Nat) ∈ GW := GW_t 21 (by decide +kernel) rfl
theorem w_22 : Jvm.Cond.methodLink "WidowRoadsLaw" (9 : Nat) ({ cls := "WidowRoads", name := "<init>", desc := "()V" } : Jvm.MethodName) ∈ GW := GW_t 22 (by decide +kernel) rfl
theorem w_23 : Jvm.Cond.instanceMethod ({ cls := "WidowRoads", name := "<init>", desc := "()V" } : Jvm.MethodName) ∈ GW := GW_t 23 (by decide +kernel) rfl
theorem w_24 : Jvm.Cond.code ({ cls := "WidowRoads", name := "<init>", desc := "()V" } : Jvm.MethodName) prog_1_method_1_code (1 : Nat) (Option.none : Option Jvm.ClassFile.FieldType) ∈ GW := GW_t 24 (by decide +kernel) rfl
theorem w_25 : Jvm.Cond.methodLink "WidowRoads" (3 : Nat) ({ cls := "java/lang/Object", name := "<init>", desc := "()V" } : Jvm.MethodName) ∈ GW := GW_t 25 (by decide +kernel) rfl
theorem w_26 : Jvm.Cond.instanceMethod ({ cls := "java/lang/Object", name := "<init>", desc := "()V" } : Jvm.MethodName) ∈ GW := GW_t 26 (by decide +kernel) rfl
theorem w_27 : Jvm.Cond.code ({ cls := "java/lang/Object", name := "<init>", desc := "()V" } : Jvm.MethodName) object_method_1_code (1 : Nat) (Option.none : Option Jvm.ClassFile.FieldType) ∈ GW := GW_t 27 (by decide +kernel) rfl
theorem w_28 : Jvm.Cond.classLink "WidowRoads" (9 : Nat) "WidowRoads$Reader" ∈ GW := GW_t 28 (by decide +kernel) rfl
theorem w_29 : Jvm.Cond.instantiable "WidowRoads$Reader" (7 : Nat) ∈ GW := GW_t 29 (by decide +kernel) rfl
theorem w_31 : Jvm.Cond.instanceMethod ({ cls := "WidowRoads$Reader", name := "<init>", desc := "()V" } : Jvm.MethodName) ∈ GW := GW_t 31 (by decide +kernel) rfl
theorem w_32 : Jvm.Cond.code ({ cls := "WidowRoads$Reader", name := "<init>", desc := "()V" } : Jvm.MethodName) prog_6_method_1_code (1 : Nat) (Option.none : Option Jvm.ClassFile.FieldType) ∈ GW := GW_t 32 (by decide +kernel) rfl
theorem w_33 : Jvm.Cond.methodLink "WidowRoads$Reader" (3 : Nat) ({ cls := "java/lang/Object", name := "<init>", desc := "()V" } : Jvm.MethodName) ∈ GW := GW_t 33 (by decide +kernel) rfl
theorem w_34 : Jvm.Cond.classLink "WidowRoads$Reader" (15 : Nat) "WidowRoads$Tape" ∈ GW := GW_t 34 (by decide +kernel) rfl
theorem w_35 : Jvm.Cond.instantiable "WidowRoads$Tape" (2 : Nat) ∈ GW := GW_t 35 (by decide +kernel) rfl
theorem w_37 : Jvm.Cond.instanceMethod ({ cls := "WidowRoads$Tape", name := "<init>", desc := "()V" } : Jvm.MethodName) ∈ GW := GW_t 37 (by decide +kernel) rfl
theorem w_38 : Jvm.Cond.code ({ cls := "WidowRoads$Tape", name := "<init>", desc := "()V" } : Jvm.MethodName) prog_10_method_1_code (1 : Nat) (Option.none : Option Jvm.ClassFile.FieldType) ∈ GW := GW_t 38 (by decide +kernel) rfl
theorem w_39 : Jvm.Cond.methodLink "WidowRoads$Tape" (3 : Nat) ({ cls := "java/lang/Object", name := "<init>", desc := "()V" } : Jvm.MethodName) ∈ GW := GW_t 39 (by decide +kernel) rfl
theorem w_40 : Jvm.Cond.fieldLink "WidowRoads$Tape" (9 : Nat) "WidowRoads$Tape" "bytes" "[B" ∈ GW := GW_t 40 (by decide +kernel) rfl
theorem w_42 : Jvm.Cond.fieldLink "WidowRoads$Tape" (15 : Nat) "WidowRoads$Tape" "length" "I" ∈ GW := GW_t 42 (by decide +kernel) rfl
theorem w_48 : Jvm.Cond.arrayClass Jvm.ClassFile.FieldType.byte ∈ GW := GW_t 48 (by decide +kernel) rfl
theorem w_49 : Jvm.Cond.classLink "WidowRoads$Reader" (22 : Nat) "WidowRoads$Colony" ∈ GW := GW_t 49 (by decide +kernel) rfl
theorem w_50 : Jvm.Cond.instantiable "WidowRoads$Colony" (19 : Nat) ∈ GW := GW_t 50 (by decide +kernel) rfl
theorem w_52 : Jvm.Cond.instanceMethod ({ cls := "WidowRoads$Colony", name := "<init>", desc := "()V" } : Jvm.MethodName) ∈ GW := GW_t 52 (by decide +kernel) rfl
theorem w_53 : Jvm.Cond.code ({ cls := "WidowRoads$Colony", name := "<init>", desc := "()V" } : Jvm.MethodName) prog_2_method_1_code (1 : Nat) (Option.none : Option Jvm.ClassFile.FieldType) ∈ GW := GW_t 53 (by decide +kernel) rfl
theorem w_54 : Jvm.Cond.methodLink "WidowRoads$Colony" (3 : Nat) ({ cls := "java/lang/Object", name := "<init>", desc := "()V" } : Jvm.MethodName) ∈ GW := GW_t 54 (by decide +kernel) rfl
theorem w_55 : Jvm.Cond.fieldLink "WidowRoads$Colony" (39 : Nat) "WidowRoads$Colony" "lines" "I" ∈ GW := GW_t 55 (by decide +kernel) rfl
theorem w_58 : Jvm.Cond.fieldLink "WidowRoads$Colony" (43 : Nat) "WidowRoads$Colony" "span" "I" ∈ GW := GW_t 58 (by decide +kernel) rfl
theorem w_64 : Jvm.Cond.fieldLink "WidowRoads$Colony" (46 : Nat) "WidowRoads$Colony" "rule" "I" ∈ GW := GW_t 64 (by decide +kernel) rfl
theorem w_67 : Jvm.Cond.fieldLink "WidowRoads$Colony" (49 : Nat) "WidowRoads$Colony" "odds" "I" ∈ GW := GW_t 67 (by decide +kernel) rfl
theorem w_71 : Jvm.Cond.fieldLink "WidowRoads$Colony" (52 : Nat) "WidowRoads$Colony" "wide" "I" ∈ GW := GW_t 71 (by decide +kernel) rfl
theorem w_74 : Jvm.Cond.fieldLink "WidowRoads$Colony" (55 : Nat) "WidowRoads$Colony" "high" "I" ∈ GW := GW_t 74 (by decide +kernel) rfl
theorem w_77 : Jvm.Cond.fieldLink "WidowRoads$Colony" (58 : Nat) "WidowRoads$Colony" "creeks" "I" ∈ GW := GW_t 77 (by decide +kernel) rfl
theorem w_80 : Jvm.Cond.fieldLink "WidowRoads$Colony" (61 : Nat) "WidowRoads$Colony" "houses" "I" ∈ GW := GW_t 80 (by decide +kernel) rfl
theorem w_86 : Jvm.Cond.fieldLink "WidowRoads$Colony" (64 : Nat) "WidowRoads$Colony" "widows" "I" ∈ GW := GW_t 86 (by decide +kernel) rfl
theorem w_89 : Jvm.Cond.fieldLink "WidowRoads$Colony" (67 : Nat) "WidowRoads$Colony" "acts" "I" ∈ GW := GW_t 89 (by decide +kernel) rfl
theorem w_91 : Jvm.Cond.fieldLink "WidowRoads$Colony" (9 : Nat) "WidowRoads$Colony" "creekSpots" "[I" ∈ GW := GW_t 91 (by decide +kernel) rfl
theorem w_94 : Jvm.Cond.fieldLink "WidowRoads$Colony" (15 : Nat) "WidowRoads$Colony" "houseSpots" "[I" ∈ GW := GW_t 94 (by decide +kernel) rfl
theorem w_97 : Jvm.Cond.fieldLink "WidowRoads$Colony" (18 : Nat) "WidowRoads$Colony" "starts" "[I" ∈ GW := GW_t 97 (by decide +kernel) rfl
theorem w_101 : Jvm.Cond.fieldLink "WidowRoads$Colony" (21 : Nat) "WidowRoads$Colony" "faces" "[I" ∈ GW := GW_t 101 (by decide +kernel) rfl
theorem w_105 : Jvm.Cond.fieldLink "WidowRoads$Colony" (24 : Nat) "WidowRoads$Colony" "paces" "[I" ∈ GW := GW_t 105 (by decide +kernel) rfl
theorem w_109 : Jvm.Cond.fieldLink "WidowRoads$Colony" (27 : Nat) "WidowRoads$Colony" "years" "[I" ∈ GW := GW_t 109 (by decide +kernel) rfl
theorem w_113 : Jvm.Cond.fieldLink "WidowRoads$Colony" (30 : Nat) "WidowRoads$Colony" "turns" "[I" ∈ GW := GW_t 113 (by decide +kernel) rfl
theorem w_117 : Jvm.Cond.fieldLink "WidowRoads$Colony" (33 : Nat) "WidowRoads$Colony" "griefs" "[I" ∈ GW := GW_t 117 (by decide +kernel) rfl
theorem w_121 : Jvm.Cond.fieldLink "WidowRoads$Colony" (36 : Nat) "WidowRoads$Colony" "actsDone" "[I" ∈ GW := GW_t 121 (by decide +kernel) rfl
theorem w_162 : Jvm.Cond.arrayClass Jvm.ClassFile.FieldType.int ∈ GW := GW_t 162 (by decide +kernel) rfl
theorem w_163 : Jvm.Cond.fieldLink "WidowRoads$Reader" (32 : Nat) "WidowRoads$Reader" "fault" "I" ∈ GW := GW_t 163 (by decide +kernel) rfl
theorem w_165 : Jvm.Cond.fieldLink "WidowRoads$Reader" (9 : Nat) "WidowRoads$Reader" "place" "I" ∈ GW := GW_t 165 (by decide +kernel) rfl
theorem w_167 : Jvm.Cond.fieldLink "WidowRoads$Reader" (18 : Nat) "WidowRoads$Reader" "tape" "LWidowRoads$Tape;" ∈ GW := GW_t 167 (by decide +kernel) rfl
theorem w_169 : Jvm.Cond.fieldLink "WidowRoads$Reader" (25 : Nat) "WidowRoads$Reader" "into" "LWidowRoads$Colony;" ∈ GW := GW_t 169 (by decide +kernel) rfl
theorem w_171 : Jvm.Cond.fieldLink "WidowRoads$Reader" (41 : Nat) "WidowRoads$Reader" "kind" "I" ∈ GW := GW_t 171 (by decide +kernel) rfl
theorem w_172 : Jvm.Cond.fieldLink "WidowRoads$Reader" (69 : Nat) "WidowRoads$Reader" "start" "I" ∈ GW := GW_t 172 (by decide +kernel) rfl
theorem w_173 : Jvm.Cond.fieldLink "WidowRoads$Reader" (35 : Nat) "WidowRoads$Reader" "stop" "I" ∈ GW := GW_t 173 (by decide +kernel) rfl
theorem w_189 : Jvm.Cond.classLink "WidowRoads" (16 : Nat) "WidowRoads$Colony" ∈ GW := GW_t 189 (by decide +kernel) rfl
theorem w_192 : Jvm.Cond.classLink "WidowRoads" (27 : Nat) "WidowRoads$Supposal" ∈ GW := GW_t 192 (by decide +kernel) rfl
theorem w_193 : Jvm.Cond.instantiable "WidowRoads$Supposal" (6 : Nat) ∈ GW := GW_t 193 (by decide +kernel) rfl
theorem w_195 : Jvm.Cond.instanceMethod ({ cls := "WidowRoads$Supposal", name := "<init>", desc := "()V" } : Jvm.MethodName) ∈ GW := GW_t 195 (by decide +kernel) rfl
theorem w_196 : Jvm.Cond.code ({ cls := "WidowRoads$Supposal", name := "<init>", desc := "()V" } : Jvm.MethodName) prog_9_method_1_code (1 : Nat) (Option.none : Option Jvm.ClassFile.FieldType) ∈ GW := GW_t 196 (by decide +kernel) rfl
theorem w_197 : Jvm.Cond.methodLink "WidowRoads$Supposal" (3 : Nat) ({ cls := "java/lang/Object", name := "<init>", desc := "()V" } : Jvm.MethodName) ∈ GW := GW_t 197 (by decide +kernel) rfl
theorem w_198 : Jvm.Cond.fieldLink "WidowRoads$Supposal" (15 : Nat) "WidowRoads$Supposal" "rule" "I" ∈ GW := GW_t 198 (by decide +kernel) rfl
theorem w_201 : Jvm.Cond.fieldLink "WidowRoads$Supposal" (22 : Nat) "WidowRoads$Supposal" "walkers" "I" ∈ GW := GW_t 201 (by decide +kernel) rfl
theorem w_205 : Jvm.Cond.fieldLink "WidowRoads$Supposal" (29 : Nat) "WidowRoads$Supposal" "creeks" "J" ∈ GW := GW_t 205 (by decide +kernel) rfl
theorem w_208 : Jvm.Cond.fieldLink "WidowRoads$Supposal" (33 : Nat) "WidowRoads$Supposal" "widow" "I" ∈ GW := GW_t 208 (by decide +kernel) rfl
theorem w_210 : Jvm.Cond.fieldLink "WidowRoads$Supposal" (36 : Nat) "WidowRoads$Supposal" "faces" "I" ∈ GW := GW_t 210 (by decide +kernel) rfl
theorem w_212 : Jvm.Cond.fieldLink "WidowRoads$Supposal" (39 : Nat) "WidowRoads$Supposal" "turn" "I" ∈ GW := GW_t 212 (by decide +kernel) rfl
theorem w_227 : Jvm.Cond.classLink "WidowRoads" (34 : Nat) "WidowRoads$Story" ∈ GW := GW_t 227 (by decide +kernel) rfl
theorem w_228 : Jvm.Cond.instantiable "WidowRoads$Story" (12 : Nat) ∈ GW := GW_t 228 (by decide +kernel) rfl
theorem w_230 : Jvm.Cond.instanceMethod ({ cls := "WidowRoads$Story", name := "<init>", desc := "()V" } : Jvm.MethodName) ∈ GW := GW_t 230 (by decide +kernel) rfl
theorem w_231 : Jvm.Cond.code ({ cls := "WidowRoads$Story", name := "<init>", desc := "()V" } : Jvm.MethodName) prog_8_method_1_code (1 : Nat) (Option.none : Option Jvm.ClassFile.FieldType) ∈ GW := GW_t 231 (by decide +kernel) rfl
theorem w_232 : Jvm.Cond.methodLink "WidowRoads$Story" (3 : Nat) ({ cls := "java/lang/Object", name := "<init>", desc := "()V" } : Jvm.MethodName) ∈ GW := GW_t 232 (by decide +kernel) rfl
theorem w_233 : Jvm.Cond.fieldLink "WidowRoads$Story" (9 : Nat) "WidowRoads$Story" "paths" "[I" ∈ GW := GW_t 233 (by decide +kernel) rfl
theorem w_234 : Jvm.Cond.fieldLink "WidowRoads$Story" (15 : Nat) "WidowRoads$Story" "lasts" "[I" ∈ GW := GW_t 234 (by decide +kernel) rfl
theorem w_236 : Jvm.Cond.fieldLink "WidowRoads$Story" (18 : Nat) "WidowRoads$Story" "stood" "[I" ∈ GW := GW_t 236 (by decide +kernel) rfl
theorem w_238 : Jvm.Cond.fieldLink "WidowRoads$Story" (21 : Nat) "WidowRoads$Story" "been" "[J" ∈ GW := GW_t 238 (by decide +kernel) rfl
theorem w_240 : Jvm.Cond.fieldLink "WidowRoads$Story" (25 : Nat) "WidowRoads$Story" "shifted" "[I" ∈ GW := GW_t 240 (by decide +kernel) rfl
theorem w_242 : Jvm.Cond.fieldLink "WidowRoads$Story" (28 : Nat) "WidowRoads$Story" "shifts" "[I" ∈ GW := GW_t 242 (by decide +kernel) rfl
theorem w_244 : Jvm.Cond.fieldLink "WidowRoads$Story" (31 : Nat) "WidowRoads$Story" "homes" "[I" ∈ GW := GW_t 244 (by decide +kernel) rfl
theorem w_246 : Jvm.Cond.fieldLink "WidowRoads$Story" (34 : Nat) "WidowRoads$Story" "roads" "[J" ∈ GW := GW_t 246 (by decide +kernel) rfl
theorem w_250 : Jvm.Cond.fieldLink "WidowRoads$Story" (37 : Nat) "WidowRoads$Story" "across" "[J" ∈ GW := GW_t 250 (by decide +kernel) rfl
theorem w_252 : Jvm.Cond.fieldLink "WidowRoads$Story" (40 : Nat) "WidowRoads$Story" "down" "[J" ∈ GW := GW_t 252 (by decide +kernel) rfl
theorem w_254 : Jvm.Cond.fieldLink "WidowRoads$Story" (80 : Nat) "WidowRoads$Story" "field" "J" ∈ GW := GW_t 254 (by decide +kernel) rfl
theorem w_255 : Jvm.Cond.fieldLink "WidowRoads$Story" (86 : Nat) "WidowRoads$Story" "houses" "I" ∈ GW := GW_t 255 (by decide +kernel) rfl
theorem w_281 : Jvm.Cond.arrayClass Jvm.ClassFile.FieldType.long ∈ GW := GW_t 281 (by decide +kernel) rfl
theorem w_282 : Jvm.Cond.classLink "WidowRoads" (44 : Nat) "WidowRoads$Evenings" ∈ GW := GW_t 282 (by decide +kernel) rfl
theorem w_283 : Jvm.Cond.instantiable "WidowRoads$Evenings" (3 : Nat) ∈ GW := GW_t 283 (by decide +kernel) rfl
theorem w_285 : Jvm.Cond.instanceMethod ({ cls := "WidowRoads$Evenings", name := "<init>", desc := "()V" } : Jvm.MethodName) ∈ GW := GW_t 285 (by decide +kernel) rfl
theorem w_286 : Jvm.Cond.code ({ cls := "WidowRoads$Evenings", name := "<init>", desc := "()V" } : Jvm.MethodName) prog_3_method_1_code (1 : Nat) (Option.none : Option Jvm.ClassFile.FieldType) ∈ GW := GW_t 286 (by decide +kernel) rfl
theorem w_287 : Jvm.Cond.methodLink "WidowRoads$Evenings" (3 : Nat) ({ cls := "java/lang/Object", name := "<init>", desc := "()V" } : Jvm.MethodName) ∈ GW := GW_t 287 (by decide +kernel) rfl
theorem w_288 : Jvm.Cond.fieldLink "WidowRoads$Evenings" (9 : Nat) "WidowRoads$Evenings" "roads" "[J" ∈ GW := GW_t 288 (by decide +kernel) rfl
theorem w_289 : Jvm.Cond.fieldLink "WidowRoads$Evenings" (15 : Nat) "WidowRoads$Evenings" "pegs" "[I" ∈ GW := GW_t 289 (by decide +kernel) rfl
theorem w_300 : Jvm.Cond.classLink "WidowRoads" (51 : Nat) "WidowRoads$Net" ∈ GW := GW_t 300 (by decide +kernel) rfl
theorem w_301 : Jvm.Cond.instantiable "WidowRoads$Net" (3 : Nat) ∈ GW := GW_t 301 (by decide +kernel) rfl
theorem w_303 : Jvm.Cond.instanceMethod ({ cls := "WidowRoads$Net", name := "<init>", desc := "()V" } : Jvm.MethodName) ∈ GW := GW_t 303 (by decide +kernel) rfl
theorem w_304 : Jvm.Cond.code ({ cls := "WidowRoads$Net", name := "<init>", desc := "()V" } : Jvm.MethodName) prog_5_method_1_code (1 : Nat) (Option.none : Option Jvm.ClassFile.FieldType) ∈ GW := GW_t 304 (by decide +kernel) rfl
theorem w_305 : Jvm.Cond.methodLink "WidowRoads$Net" (3 : Nat) ({ cls := "java/lang/Object", name := "<init>", desc := "()V" } : Jvm.MethodName) ∈ GW := GW_t 305 (by decide +kernel) rfl
theorem w_316 : Jvm.Cond.classLink "WidowRoads" (58 : Nat) "WidowRoads$Rows" ∈ GW := GW_t 316 (by decide +kernel) rfl
theorem w_317 : Jvm.Cond.instantiable "WidowRoads$Rows" (4 : Nat) ∈ GW := GW_t 317 (by decide +kernel) rfl
theorem w_319 : Jvm.Cond.instanceMethod ({ cls := "WidowRoads$Rows", name := "<init>", desc := "()V" } : Jvm.MethodName) ∈ GW := GW_t 319 (by decide +kernel) rfl
theorem w_320 : Jvm.Cond.code ({ cls := "WidowRoads$Rows", name := "<init>", desc := "()V" } : Jvm.MethodName) prog_7_method_1_code (1 : Nat) (Option.none : Option Jvm.ClassFile.FieldType) ∈ GW := GW_t 320 (by decide +kernel) rfl
theorem w_321 : Jvm.Cond.methodLink "WidowRoads$Rows" (3 : Nat) ({ cls := "java/lang/Object", name := "<init>", desc := "()V" } : Jvm.MethodName) ∈ GW := GW_t 321 (by decide +kernel) rfl
theorem w_322 : Jvm.Cond.fieldLink "WidowRoads$Rows" (9 : Nat) "WidowRoads$Rows" "numbers" "[J" ∈ GW := GW_t 322 (by decide +kernel) rfl
theorem w_323 : Jvm.Cond.fieldLink "WidowRoads$Rows" (15 : Nat) "WidowRoads$Rows" "had" "[Z" ∈ GW := GW_t 323 (by decide +kernel) rfl
theorem w_324 : Jvm.Cond.fieldLink "WidowRoads$Rows" (19 : Nat) "WidowRoads$Rows" "widths" "[I" ∈ GW := GW_t 324 (by decide +kernel) rfl
theorem w_326 : Jvm.Cond.fieldLink "WidowRoads$Rows" (23 : Nat) "WidowRoads$Rows" "sizes" "[I" ∈ GW := GW_t 326 (by decide +kernel) rfl
theorem w_337 : Jvm.Cond.arrayClass Jvm.ClassFile.FieldType.boolean ∈ GW := GW_t 337 (by decide +kernel) rfl
theorem w_338 : Jvm.Cond.classLink "WidowRoads" (65 : Nat) "WidowRoads$Fraction" ∈ GW := GW_t 338 (by decide +kernel) rfl
theorem w_339 : Jvm.Cond.instantiable "WidowRoads$Fraction" (2 : Nat) ∈ GW := GW_t 339 (by decide +kernel) rfl
theorem w_341 : Jvm.Cond.instanceMethod ({ cls := "WidowRoads$Fraction", name := "<init>", desc := "()V" } : Jvm.MethodName) ∈ GW := GW_t 341 (by decide +kernel) rfl
theorem w_342 : Jvm.Cond.code ({ cls := "WidowRoads$Fraction", name := "<init>", desc := "()V" } : Jvm.MethodName) prog_4_method_1_code (1 : Nat) (Option.none : Option Jvm.ClassFile.FieldType) ∈ GW := GW_t 342 (by decide +kernel) rfl
theorem w_343 : Jvm.Cond.methodLink "WidowRoads$Fraction" (1 : Nat) ({ cls := "java/lang/Object", name := "<init>", desc := "()V" } : Jvm.MethodName) ∈ GW := GW_t 343 (by decide +kernel) rfl
theorem w_345 : Jvm.Cond.fieldLink "WidowRoads$Fraction" (7 : Nat) "WidowRoads$Fraction" "below" "J" ∈ GW := GW_t 345 (by decide +kernel) rfl
theorem w_351 : Jvm.Cond.fieldLink "WidowRoads" (12 : Nat) "WidowRoads" "reader" "LWidowRoads$Reader;" ∈ GW := GW_t 351 (by decide +kernel) rfl
theorem w_352 : Jvm.Cond.fieldLink "WidowRoads" (19 : Nat) "WidowRoads" "told" "LWidowRoads$Colony;" ∈ GW := GW_t 352 (by decide +kernel) rfl
theorem w_353 : Jvm.Cond.fieldLink "WidowRoads" (23 : Nat) "WidowRoads" "images" "[LWidowRoads$Colony;" ∈ GW := GW_t 353 (by decide +kernel) rfl
theorem w_354 : Jvm.Cond.fieldLink "WidowRoads" (30 : Nat) "WidowRoads" "supposal" "LWidowRoads$Supposal;" ∈ GW := GW_t 354 (by decide +kernel) rfl
theorem w_355 : Jvm.Cond.fieldLink "WidowRoads" (37 : Nat) "WidowRoads" "now" "LWidowRoads$Story;" ∈ GW := GW_t 355 (by decide +kernel) rfl
theorem w_356 : Jvm.Cond.fieldLink "WidowRoads" (41 : Nat) "WidowRoads" "spare" "LWidowRoads$Story;" ∈ GW := GW_t 356 (by decide +kernel) rfl
theorem w_357 : Jvm.Cond.fieldLink "WidowRoads" (47 : Nat) "WidowRoads" "evenings" "LWidowRoads$Evenings;" ∈ GW := GW_t 357 (by decide +kernel) rfl
theorem w_358 : Jvm.Cond.fieldLink "WidowRoads" (54 : Nat) "WidowRoads" "net" "LWidowRoads$Net;" ∈ GW := GW_t 358 (by decide +kernel) rfl
theorem w_359 : Jvm.Cond.fieldLink "WidowRoads" (61 : Nat) "WidowRoads" "rows" "LWidowRoads$Rows;" ∈ GW := GW_t 359 (by decide +kernel) rfl
theorem w_360 : Jvm.Cond.fieldLink "WidowRoads" (68 : Nat) "WidowRoads" "fraction" "LWidowRoads$Fraction;" ∈ GW := GW_t 360 (by decide +kernel) rfl
theorem w_361 : Jvm.Cond.fieldLink "WidowRoads" (72 : Nat) "WidowRoads" "tracks" "[I" ∈ GW := GW_t 361 (by decide +kernel) rfl
theorem w_385 : Jvm.Cond.methodLink "WidowRoadsLaw" (13 : Nat) ({ cls := "WidowRoads", name := "feed", desc := "(IIIII)I" } : Jvm.MethodName) ∈ GW := GW_t 385 (by decide +kernel) rfl
theorem w_386 : Jvm.Cond.instanceMethod ({ cls := "WidowRoads", name := "feed", desc := "(IIIII)I" } : Jvm.MethodName) ∈ GW := GW_t 386 (by decide +kernel) rfl
theorem w_387 : Jvm.Cond.selects "WidowRoads" ({ cls := "WidowRoads", name := "feed", desc := "(IIIII)I" } : Jvm.MethodName) ({ cls := "WidowRoads", name := "feed", desc := "(IIIII)I" } : Jvm.MethodName) ∈ GW := GW_t 387 (by decide +kernel) rfl
theorem w_388 : Jvm.Cond.code ({ cls := "WidowRoads", name := "feed", desc := "(IIIII)I" } : Jvm.MethodName) prog_1_method_2_code (6 : Nat) (Option.some Jvm.ClassFile.FieldType.int) ∈ GW := GW_t 388 (by decide +kernel) rfl
theorem w_391 : Jvm.Cond.instanceMethod ({ cls := "WidowRoads$Tape", name := "put", desc := "(I)V" } : Jvm.MethodName) ∈ GW := GW_t 391 (by decide +kernel) rfl
theorem w_392 : Jvm.Cond.code ({ cls := "WidowRoads$Tape", name := "put", desc := "(I)V" } : Jvm.MethodName) prog_10_method_2_code (3 : Nat) (Option.none : Option Jvm.ClassFile.FieldType) ∈ GW := GW_t 392 (by decide +kernel) rfl
theorem w_393 : Jvm.Cond.methodLink "WidowRoadsLaw" (18 : Nat) ({ cls := "WidowRoads", name := "end", desc := "(I)I" } : Jvm.MethodName) ∈ GW := GW_t 393 (by decide +kernel) rfl
theorem w_394 : Jvm.Cond.instanceMethod ({ cls := "WidowRoads", name := "end", desc := "(I)I" } : Jvm.MethodName) ∈ GW := GW_t 394 (by decide +kernel) rfl
theorem w_395 : Jvm.Cond.selects "WidowRoads" ({ cls := "WidowRoads", name := "end", desc := "(I)I" } : Jvm.MethodName) ({ cls := "WidowRoads", name := "end", desc := "(I)I" } : Jvm.MethodName) ∈ GW := GW_t 395 (by decide +kernel) rfl
theorem w_396 : Jvm.Cond.code ({ cls := "WidowRoads", name := "end", desc := "(I)I" } : Jvm.MethodName) prog_1_method_3_code (2 : Nat) (Option.some Jvm.ClassFile.FieldType.int) ∈ GW := GW_t 396 (by decide +kernel) rfl
theorem w_397 : Jvm.Cond.methodLink "WidowRoadsLaw" (23 : Nat) ({ cls := "WidowRoads", name := "colony", desc := "()I" } : Jvm.MethodName) ∈ GW := GW_t 397 (by decide +kernel) rfl
theorem w_398 : Jvm.Cond.instanceMethod ({ cls := "WidowRoads", name := "colony", desc := "()I" } : Jvm.MethodName) ∈ GW := GW_t 398 (by decide +kernel) rfl
theorem w_399 : Jvm.Cond.selects "WidowRoads" ({ cls := "WidowRoads", name := "colony", desc := "()I" } : Jvm.MethodName) ({ cls := "WidowRoads", name := "colony", desc := "()I" } : Jvm.MethodName) ∈ GW := GW_t 399 (by decide +kernel) rfl
theorem w_400 : Jvm.Cond.code ({ cls := "WidowRoads", name := "colony", desc := "()I" } : Jvm.MethodName) prog_1_method_4_code (1 : Nat) (Option.some Jvm.ClassFile.FieldType.int) ∈ GW := GW_t 400 (by decide +kernel) rfl
theorem w_403 : Jvm.Cond.instanceMethod ({ cls := "WidowRoads$Reader", name := "read", desc := "()V" } : Jvm.MethodName) ∈ GW := GW_t 403 (by decide +kernel) rfl
theorem w_404 : Jvm.Cond.code ({ cls := "WidowRoads$Reader", name := "read", desc := "()V" } : Jvm.MethodName) prog_6_method_2_code (2 : Nat) (Option.none : Option Jvm.ClassFile.FieldType) ∈ GW := GW_t 404 (by decide +kernel) rfl
theorem w_407 : Jvm.Cond.instanceMethod ({ cls := "WidowRoads$Colony", name := "clear", desc := "()V" } : Jvm.MethodName) ∈ GW := GW_t 407 (by decide +kernel) rfl
theorem w_408 : Jvm.Cond.code ({ cls := "WidowRoads$Colony", name := "clear", desc := "()V" } : Jvm.MethodName) prog_2_method_2_code (1 : Nat) (Option.none : Option Jvm.ClassFile.FieldType) ∈ GW := GW_t 408 (by decide +kernel) rfl
theorem w_409 : Jvm.Cond.methodLink "WidowRoads$Reader" (38 : Nat) ({ cls := "WidowRoads$Reader", name := "next", desc := "()V" } : Jvm.MethodName) ∈ GW := GW_t 409 (by decide +kernel) rfl
theorem w_411 : Jvm.Cond.instanceMethod ({ cls := "WidowRoads$Reader", name := "next", desc := "()V" } : Jvm.MethodName) ∈ GW := GW_t 411 (by decide +kernel) rfl
theorem w_412 : Jvm.Cond.code ({ cls := "WidowRoads$Reader", name := "next", desc := "()V" } : Jvm.MethodName) prog_6_method_5_code (2 : Nat) (Option.none : Option Jvm.ClassFile.FieldType) ∈ GW := GW_t 412 (by decide +kernel) rfl
theorem w_415 : Jvm.Cond.instanceMethod ({ cls := "WidowRoads$Tape", name := "byteAt", desc := "(I)I" } : Jvm.MethodName) ∈ GW := GW_t 415 (by decide +kernel) rfl
theorem w_416 : Jvm.Cond.code ({ cls := "WidowRoads$Tape", name := "byteAt", desc := "(I)I" } : Jvm.MethodName) prog_10_method_3_code (2 : Nat) (Option.some Jvm.ClassFile.FieldType.int) ∈ GW := GW_t 416 (by decide +kernel) rfl
theorem w_417 : Jvm.Cond.methodLink "WidowRoads$Reader" (83 : Nat) ({ cls := "WidowRoads$Reader", name := "isBlank", desc := "(I)Z" } : Jvm.MethodName) ∈ GW := GW_t 417 (by decide +kernel) rfl
theorem w_418 : Jvm.Cond.static ({ cls := "WidowRoads$Reader", name := "isBlank", desc := "(I)Z" } : Jvm.MethodName) ∈ GW := GW_t 418 (by decide +kernel) rfl
theorem w_419 : Jvm.Cond.code ({ cls := "WidowRoads$Reader", name := "isBlank", desc := "(I)Z" } : Jvm.MethodName) prog_6_method_17_code (1 : Nat) (Option.some Jvm.ClassFile.FieldType.boolean) ∈ GW := GW_t 419 (by decide +kernel) rfl
theorem w_515 : Jvm.Cond.instanceMethod ({ cls := "WidowRoads$Colony", name := "creekBits", desc := "()J" } : Jvm.MethodName) ∈ GW := GW_t 515 (by decide +kernel) rfl
theorem w_516 : Jvm.Cond.code ({ cls := "WidowRoads$Colony", name := "creekBits", desc := "()J" } : Jvm.MethodName) prog_2_method_9_code (4 : Nat) (Option.some Jvm.ClassFile.FieldType.long) ∈ GW := GW_t 516 (by decide +kernel) rfl
theorem w_564 : Jvm.Cond.instanceMethod ({ cls := "WidowRoads$Colony", name := "become", desc := "(LWidowRoads$Colony;)V" } : Jvm.MethodName) ∈ GW := GW_t 564 (by decide +kernel) rfl
theorem w_565 : Jvm.Cond.code ({ cls := "WidowRoads$Colony", name := "become", desc := "(LWidowRoads$Colony;)V" } : Jvm.MethodName) prog_2_method_3_code (2 : Nat) (Option.none : Option Jvm.ClassFile.FieldType) ∈ GW := GW_t 565 (by decide +kernel) rfl
theorem w_566 : Jvm.Cond.methodLink "WidowRoads$Colony" (70 : Nat) ({ cls := "java/lang/System", name := "arraycopy", desc := "(Ljava/lang/Object;ILjava/lang/Object;II)V" } : Jvm.MethodName) ∈ GW := GW_t 566 (by decide +kernel) rfl
theorem w_567 : Jvm.Cond.static ({ cls := "java/lang/System", name := "arraycopy", desc := "(Ljava/lang/Object;ILjava/lang/Object;II)V" } : Jvm.MethodName) ∈ GW := GW_t 567 (by decide +kernel) rfl
theorem w_568 : Jvm.Cond.native ({ cls := "java/lang/System", name := "arraycopy", desc := "(Ljava/lang/Object;ILjava/lang/Object;II)V" } : Jvm.MethodName) ∈ GW := GW_t 568 (by decide +kernel) rfl
theorem w_569 : Jvm.Cond.methodLink "WidowRoads" (103 : Nat) ({ cls := "WidowRoads", name := "walkAnew", desc := "()V" } : Jvm.MethodName) ∈ GW := GW_t 569 (by decide +kernel) rfl
theorem w_571 : Jvm.Cond.instanceMethod ({ cls := "WidowRoads", name := "walkAnew", desc := "()V" } : Jvm.MethodName) ∈ GW := GW_t 571 (by decide +kernel) rfl
theorem w_572 : Jvm.Cond.code ({ cls := "WidowRoads", name := "walkAnew", desc := "()V" } : Jvm.MethodName) prog_1_method_70_code (1 : Nat) (Option.none : Option Jvm.ClassFile.FieldType) ∈ GW := GW_t 572 (by decide +kernel) rfl
theorem w_575 : Jvm.Cond.instanceMethod ({ cls := "WidowRoads$Supposal", name := "asNow", desc := "(LWidowRoads$Colony;)V" } : Jvm.MethodName) ∈ GW := GW_t 575 (by decide +kernel) rfl
theorem w_576 : Jvm.Cond.code ({ cls := "WidowRoads$Supposal", name := "asNow", desc := "(LWidowRoads$Colony;)V" } : Jvm.MethodName) prog_9_method_2_code (2 : Nat) (Option.none : Option Jvm.ClassFile.FieldType) ∈ GW := GW_t 576 (by decide +kernel) rfl
theorem w_579 : Jvm.Cond.instanceMethod ({ cls := "WidowRoads$Colony", name := "walkerBits", desc := "()I" } : Jvm.MethodName) ∈ GW := GW_t 579 (by decide +kernel) rfl
theorem w_580 : Jvm.Cond.code ({ cls := "WidowRoads$Colony", name := "walkerBits", desc := "()I" } : Jvm.MethodName) prog_2_method_11_code (3 : Nat) (Option.some Jvm.ClassFile.FieldType.int) ∈ GW := GW_t 580 (by decide +kernel) rfl
theorem w_584 : Jvm.Cond.instanceMethod ({ cls := "WidowRoads$Story", name := "tell", desc := "(LWidowRoads$Colony;LWidowRoads$Supposal;)V" } : Jvm.MethodName) ∈ GW := GW_t 584 (by decide +kernel) rfl
theorem w_585 : Jvm.Cond.code ({ cls := "WidowRoads$Story", name := "tell", desc := "(LWidowRoads$Colony;LWidowRoads$Supposal;)V" } : Jvm.MethodName) prog_8_method_2_code (5 : Nat) (Option.none : Option Jvm.ClassFile.FieldType) ∈ GW := GW_t 585 (by decide +kernel) rfl
theorem w_586 : Jvm.Cond.methodLink "WidowRoads$Story" (43 : Nat) ({ cls := "WidowRoads$Story", name := "begin", desc := "(LWidowRoads$Colony;)V" } : Jvm.MethodName) ∈ GW := GW_t 586 (by decide +kernel) rfl
theorem w_588 : Jvm.Cond.instanceMethod ({ cls := "WidowRoads$Story", name := "begin", desc := "(LWidowRoads$Colony;)V" } : Jvm.MethodName) ∈ GW := GW_t 588 (by decide +kernel) rfl
theorem w_589 : Jvm.Cond.code ({ cls := "WidowRoads$Story", name := "begin", desc := "(LWidowRoads$Colony;)V" } : Jvm.MethodName) prog_8_method_3_code (3 : Nat) (Option.none : Option Jvm.ClassFile.FieldType) ∈ GW := GW_t 589 (by decide +kernel) rfl
theorem w_592 : Jvm.Cond.instanceMethod ({ cls := "WidowRoads$Colony", name := "field", desc := "()J" } : Jvm.MethodName) ∈ GW := GW_t 592 (by decide +kernel) rfl
theorem w_593 : Jvm.Cond.code ({ cls := "WidowRoads$Colony", name := "field", desc := "()J" } : Jvm.MethodName) prog_2_method_8_code (4 : Nat) (Option.some Jvm.ClassFile.FieldType.long) ∈ GW := GW_t 593 (by decide +kernel) rfl
theorem w_645 : Jvm.Cond.methodLink "WidowRoadsLaw" (28 : Nat) ({ cls := "WidowRoads", name := "fault", desc := "(I)I" } : Jvm.MethodName) ∈ GW := GW_t 645 (by decide +kernel) rfl
theorem w_646 : Jvm.Cond.instanceMethod ({ cls := "WidowRoads", name := "fault", desc := "(I)I" } : Jvm.MethodName) ∈ GW := GW_t 646 (by decide +kernel) rfl
theorem w_647 : Jvm.Cond.selects "WidowRoads" ({ cls := "WidowRoads", name := "fault", desc := "(I)I" } : Jvm.MethodName) ({ cls := "WidowRoads", name := "fault", desc := "(I)I" } : Jvm.MethodName) ∈ GW := GW_t 647 (by decide +kernel) rfl
theorem w_648 : Jvm.Cond.code ({ cls := "WidowRoads", name := "fault", desc := "(I)I" } : Jvm.MethodName) prog_1_method_5_code (2 : Nat) (Option.some Jvm.ClassFile.FieldType.int) ∈ GW := GW_t 648 (by decide +kernel) rfl
theorem w_649 : Jvm.Cond.methodLink "WidowRoadsLaw" (32 : Nat) ({ cls := "WidowRoads", name := "creek", desc := "(I)I" } : Jvm.MethodName) ∈ GW := GW_t 649 (by decide +kernel) rfl
theorem w_650 : Jvm.Cond.instanceMethod ({ cls := "WidowRoads", name := "creek", desc := "(I)I" } : Jvm.MethodName) ∈ GW := GW_t 650 (by decide +kernel) rfl
theorem w_651 : Jvm.Cond.selects "WidowRoads" ({ cls := "WidowRoads", name := "creek", desc := "(I)I" } : Jvm.MethodName) ({ cls := "WidowRoads", name := "creek", desc := "(I)I" } : Jvm.MethodName) ∈ GW := GW_t 651 (by decide +kernel) rfl
theorem w_652 : Jvm.Cond.code ({ cls := "WidowRoads", name := "creek", desc := "(I)I" } : Jvm.MethodName) prog_1_method_6_code (3 : Nat) (Option.some Jvm.ClassFile.FieldType.int) ∈ GW := GW_t 652 (by decide +kernel) rfl
theorem w_655 : Jvm.Cond.instanceMethod ({ cls := "WidowRoads$Colony", name := "spotOf", desc := "(J)I" } : Jvm.MethodName) ∈ GW := GW_t 655 (by decide +kernel) rfl
theorem w_656 : Jvm.Cond.code ({ cls := "WidowRoads$Colony", name := "spotOf", desc := "(J)I" } : Jvm.MethodName) prog_2_method_7_code (3 : Nat) (Option.some Jvm.ClassFile.FieldType.int) ∈ GW := GW_t 656 (by decide +kernel) rfl
theorem w_657 : Jvm.Cond.constantLong "WidowRoads$Colony" (76 : Nat) (10 : Int64) ∈ GW := GW_t 657 (by decide +kernel) rfl
theorem w_662 : Jvm.Cond.static ({ cls := "WidowRoads", name := "oneIf", desc := "(Z)I" } : Jvm.MethodName) ∈ GW := GW_t 662 (by decide +kernel) rfl
theorem w_663 : Jvm.Cond.code ({ cls := "WidowRoads", name := "oneIf", desc := "(Z)I" } : Jvm.MethodName) prog_1_method_89_code (1 : Nat) (Option.some Jvm.ClassFile.FieldType.int) ∈ GW := GW_t 663 (by decide +kernel) rfl
theorem w_664 : Jvm.Cond.methodLink "WidowRoadsLaw" (36 : Nat) ({ cls := "WidowRoads", name := "widow", desc := "(II)I" } : Jvm.MethodName) ∈ GW := GW_t 664 (by decide +kernel) rfl
theorem w_665 : Jvm.Cond.instanceMethod ({ cls := "WidowRoads", name := "widow", desc := "(II)I" } : Jvm.MethodName) ∈ GW := GW_t 665 (by decide +kernel) rfl
theorem w_666 : Jvm.Cond.selects "WidowRoads" ({ cls := "WidowRoads", name := "widow", desc := "(II)I" } : Jvm.MethodName) ({ cls := "WidowRoads", name := "widow", desc := "(II)I" } : Jvm.MethodName) ∈ GW := GW_t 666 (by decide +kernel) rfl
theorem w_667 : Jvm.Cond.code ({ cls := "WidowRoads", name := "widow", desc := "(II)I" } : Jvm.MethodName) prog_1_method_7_code (3 : Nat) (Option.some Jvm.ClassFile.FieldType.int) ∈ GW := GW_t 667 (by decide +kernel) rfl
theorem w_670 : Jvm.Cond.instanceMethod ({ cls := "WidowRoads$Colony", name := "hasWidow", desc := "(J)Z" } : Jvm.MethodName) ∈ GW := GW_t 670 (by decide +kernel) rfl
theorem w_671 : Jvm.Cond.code ({ cls := "WidowRoads$Colony", name := "hasWidow", desc := "(J)Z" } : Jvm.MethodName) prog_2_method_4_code (3 : Nat) (Option.some Jvm.ClassFile.FieldType.boolean) ∈ GW := GW_t 671 (by decide +kernel) rfl
theorem w_675 : Jvm.Cond.methodLink "WidowRoadsLaw" (41 : Nat) ({ cls := "WidowRoads", name := "grief", desc := "(II)I" } : Jvm.MethodName) ∈ GW := GW_t 675 (by decide +kernel) rfl
theorem w_676 : Jvm.Cond.instanceMethod ({ cls := "WidowRoads", name := "grief", desc := "(II)I" } : Jvm.MethodName) ∈ GW := GW_t 676 (by decide +kernel) rfl
theorem w_677 : Jvm.Cond.selects "WidowRoads" ({ cls := "WidowRoads", name := "grief", desc := "(II)I" } : Jvm.MethodName) ({ cls := "WidowRoads", name := "grief", desc := "(II)I" } : Jvm.MethodName) ∈ GW := GW_t 677 (by decide +kernel) rfl
theorem w_678 : Jvm.Cond.code ({ cls := "WidowRoads", name := "grief", desc := "(II)I" } : Jvm.MethodName) prog_1_method_8_code (3 : Nat) (Option.some Jvm.ClassFile.FieldType.int) ∈ GW := GW_t 678 (by decide +kernel) rfl
theorem w_679 : Jvm.Cond.methodLink "WidowRoadsLaw" (45 : Nat) ({ cls := "WidowRoads", name := "at", desc := "(II)I" } : Jvm.MethodName) ∈ GW := GW_t 679 (by decide +kernel) rfl
theorem w_680 : Jvm.Cond.instanceMethod ({ cls := "WidowRoads", name := "at", desc := "(II)I" } : Jvm.MethodName) ∈ GW := GW_t 680 (by decide +kernel) rfl
theorem w_681 : Jvm.Cond.selects "WidowRoads" ({ cls := "WidowRoads", name := "at", desc := "(II)I" } : Jvm.MethodName) ({ cls := "WidowRoads", name := "at", desc := "(II)I" } : Jvm.MethodName) ∈ GW := GW_t 681 (by decide +kernel) rfl
theorem w_682 : Jvm.Cond.code ({ cls := "WidowRoads", name := "at", desc := "(II)I" } : Jvm.MethodName) prog_1_method_9_code (3 : Nat) (Option.some Jvm.ClassFile.FieldType.int) ∈ GW := GW_t 682 (by decide +kernel) rfl
theorem w_691 : Jvm.Cond.methodLink "WidowRoadsLaw" (49 : Nat) ({ cls := "WidowRoads", name := "steps", desc := "(I)I" } : Jvm.MethodName) ∈ GW := GW_t 691 (by decide +kernel) rfl
theorem w_692 : Jvm.Cond.instanceMethod ({ cls := "WidowRoads", name := "steps", desc := "(I)I" } : Jvm.MethodName) ∈ GW := GW_t 692 (by decide +kernel) rfl
theorem w_693 : Jvm.Cond.selects "WidowRoads" ({ cls := "WidowRoads", name := "steps", desc := "(I)I" } : Jvm.MethodName) ({ cls := "WidowRoads", name := "steps", desc := "(I)I" } : Jvm.MethodName) ∈ GW := GW_t 693 (by decide +kernel) rfl
theorem w_694 : Jvm.Cond.code ({ cls := "WidowRoads", name := "steps", desc := "(I)I" } : Jvm.MethodName) prog_1_method_10_code (2 : Nat) (Option.some Jvm.ClassFile.FieldType.int) ∈ GW := GW_t 694 (by decide +kernel) rfl
theorem w_695 : Jvm.Cond.methodLink "WidowRoadsLaw" (53 : Nat) ({ cls := "WidowRoads", name := "stands", desc := "(I)I" } : Jvm.MethodName) ∈ GW := GW_t 695 (by decide +kernel) rfl
theorem w_696 : Jvm.Cond.instanceMethod ({ cls := "WidowRoads", name := "stands", desc := "(I)I" } : Jvm.MethodName) ∈ GW := GW_t 696 (by decide +kernel) rfl
theorem w_697 : Jvm.Cond.selects "WidowRoads" ({ cls := "WidowRoads", name := "stands", desc := "(I)I" } : Jvm.MethodName) ({ cls := "WidowRoads", name := "stands", desc := "(I)I" } : Jvm.MethodName) ∈ GW := GW_t 697 (by decide +kernel) rfl
theorem w_698 : Jvm.Cond.code ({ cls := "WidowRoads", name := "stands", desc := "(I)I" } : Jvm.MethodName) prog_1_method_11_code (2 : Nat) (Option.some Jvm.ClassFile.FieldType.int) ∈ GW := GW_t 698 (by decide +kernel) rfl
theorem w_703 : Jvm.Cond.methodLink "WidowRoadsLaw" (57 : Nat) ({ cls := "WidowRoads", name := "ground", desc := "(I)I" } : Jvm.MethodName) ∈ GW := GW_t 703 (by decide +kernel) rfl
theorem w_704 : Jvm.Cond.instanceMethod ({ cls := "WidowRoads", name := "ground", desc := "(I)I" } : Jvm.MethodName) ∈ GW := GW_t 704 (by decide +kernel) rfl
theorem w_705 : Jvm.Cond.selects "WidowRoads" ({ cls := "WidowRoads", name := "ground", desc := "(I)I" } : Jvm.MethodName) ({ cls := "WidowRoads", name := "ground", desc := "(I)I" } : Jvm.MethodName) ∈ GW := GW_t 705 (by decide +kernel) rfl
theorem w_706 : Jvm.Cond.code ({ cls := "WidowRoads", name := "ground", desc := "(I)I" } : Jvm.MethodName) prog_1_method_12_code (2 : Nat) (Option.some Jvm.ClassFile.FieldType.int) ∈ GW := GW_t 706 (by decide +kernel) rfl
theorem w_707 : Jvm.Cond.methodLink "WidowRoadsLaw" (61 : Nat) ({ cls := "WidowRoads", name := "loop", desc := "(I)I" } : Jvm.MethodName) ∈ GW := GW_t 707 (by decide +kernel) rfl
theorem w_708 : Jvm.Cond.instanceMethod ({ cls := "WidowRoads", name := "loop", desc := "(I)I" } : Jvm.MethodName) ∈ GW := GW_t 708 (by decide +kernel) rfl
theorem w_709 : Jvm.Cond.selects "WidowRoads" ({ cls := "WidowRoads", name := "loop", desc := "(I)I" } : Jvm.MethodName) ({ cls := "WidowRoads", name := "loop", desc := "(I)I" } : Jvm.MethodName) ∈ GW := GW_t 709 (by decide +kernel) rfl
theorem w_710 : Jvm.Cond.code ({ cls := "WidowRoads", name := "loop", desc := "(I)I" } : Jvm.MethodName) prog_1_method_13_code (4 : Nat) (Option.some Jvm.ClassFile.FieldType.int) ∈ GW := GW_t 710 (by decide +kernel) rfl
theorem w_711 : Jvm.Cond.methodLink "WidowRoadsLaw" (65 : Nat) ({ cls := "WidowRoads", name := "haunt", desc := "(I)I" } : Jvm.MethodName) ∈ GW := GW_t 711 (by decide +kernel) rfl
theorem w_712 : Jvm.Cond.instanceMethod ({ cls := "WidowRoads", name := "haunt", desc := "(I)I" } : Jvm.MethodName) ∈ GW := GW_t 712 (by decide +kernel) rfl
theorem w_713 : Jvm.Cond.selects "WidowRoads" ({ cls := "WidowRoads", name := "haunt", desc := "(I)I" } : Jvm.MethodName) ({ cls := "WidowRoads", name := "haunt", desc := "(I)I" } : Jvm.MethodName) ∈ GW := GW_t 713 (by decide +kernel) rfl
theorem w_714 : Jvm.Cond.code ({ cls := "WidowRoads", name := "haunt", desc := "(I)I" } : Jvm.MethodName) prog_1_method_14_code (6 : Nat) (Option.some Jvm.ClassFile.FieldType.int) ∈ GW := GW_t 714 (by decide +kernel) rfl
theorem w_720 : Jvm.Cond.methodLink "WidowRoadsLaw" (69 : Nat) ({ cls := "WidowRoads", name := "evening", desc := "(I)I" } : Jvm.MethodName) ∈ GW := GW_t 720 (by decide +kernel) rfl
theorem w_721 : Jvm.Cond.instanceMethod ({ cls := "WidowRoads", name := "evening", desc := "(I)I" } : Jvm.MethodName) ∈ GW := GW_t 721 (by decide +kernel) rfl
theorem w_722 : Jvm.Cond.selects "WidowRoads" ({ cls := "WidowRoads", name := "evening", desc := "(I)I" } : Jvm.MethodName) ({ cls := "WidowRoads", name := "evening", desc := "(I)I" } : Jvm.MethodName) ∈ GW := GW_t 722 (by decide +kernel) rfl
theorem w_723 : Jvm.Cond.code ({ cls := "WidowRoads", name := "evening", desc := "(I)I" } : Jvm.MethodName) prog_1_method_15_code (4 : Nat) (Option.some Jvm.ClassFile.FieldType.int) ∈ GW := GW_t 723 (by decide +kernel) rfl
theorem w_726 : Jvm.Cond.instanceMethod ({ cls := "WidowRoads$Colony", name := "hasYear", desc := "(I)Z" } : Jvm.MethodName) ∈ GW := GW_t 726 (by decide +kernel) rfl
theorem w_727 : Jvm.Cond.code ({ cls := "WidowRoads$Colony", name := "hasYear", desc := "(I)Z" } : Jvm.MethodName) prog_2_method_6_code (2 : Nat) (Option.some Jvm.ClassFile.FieldType.boolean) ∈ GW := GW_t 727 (by decide +kernel) rfl
theorem w_728 : Jvm.Cond.methodLink "WidowRoadsLaw" (73 : Nat) ({ cls := "WidowRoads", name := "visits", desc := "(II)I" } : Jvm.MethodName) ∈ GW := GW_t 728 (by decide +kernel) rfl
theorem w_729 : Jvm.Cond.instanceMethod ({ cls := "WidowRoads", name := "visits", desc := "(II)I" } : Jvm.MethodName) ∈ GW := GW_t 729 (by decide +kernel) rfl
theorem w_730 : Jvm.Cond.selects "WidowRoads" ({ cls := "WidowRoads", name := "visits", desc := "(II)I" } : Jvm.MethodName) ({ cls := "WidowRoads", name := "visits", desc := "(II)I" } : Jvm.MethodName) ∈ GW := GW_t 730 (by decide +kernel) rfl
theorem w_731 : Jvm.Cond.code ({ cls := "WidowRoads", name := "visits", desc := "(II)I" } : Jvm.MethodName) prog_1_method_16_code (4 : Nat) (Option.some Jvm.ClassFile.FieldType.int) ∈ GW := GW_t 731 (by decide +kernel) rfl
theorem w_732 : Jvm.Cond.methodLink "WidowRoadsLaw" (77 : Nat) ({ cls := "WidowRoads", name := "straight", desc := "(I)I" } : Jvm.MethodName) ∈ GW := GW_t 732 (by decide +kernel) rfl
theorem w_733 : Jvm.Cond.instanceMethod ({ cls := "WidowRoads", name := "straight", desc := "(I)I" } : Jvm.MethodName) ∈ GW := GW_t 733 (by decide +kernel) rfl
theorem w_734 : Jvm.Cond.selects "WidowRoads" ({ cls := "WidowRoads", name := "straight", desc := "(I)I" } : Jvm.MethodName) ({ cls := "WidowRoads", name := "straight", desc := "(I)I" } : Jvm.MethodName) ∈ GW := GW_t 734 (by decide +kernel) rfl
theorem w_735 : Jvm.Cond.code ({ cls := "WidowRoads", name := "straight", desc := "(I)I" } : Jvm.MethodName) prog_1_method_17_code (3 : Nat) (Option.some Jvm.ClassFile.FieldType.int) ∈ GW := GW_t 735 (by decide +kernel) rfl
theorem w_757 : Jvm.Cond.methodLink "WidowRoadsLaw" (81 : Nat) ({ cls := "WidowRoads", name := "road", desc := "(II)I" } : Jvm.MethodName) ∈ GW := GW_t 757 (by decide +kernel) rfl
theorem w_758 : Jvm.Cond.instanceMethod ({ cls := "WidowRoads", name := "road", desc := "(II)I" } : Jvm.MethodName) ∈ GW := GW_t 758 (by decide +kernel) rfl
theorem w_759 : Jvm.Cond.selects "WidowRoads" ({ cls := "WidowRoads", name := "road", desc := "(II)I" } : Jvm.MethodName) ({ cls := "WidowRoads", name := "road", desc := "(II)I" } : Jvm.MethodName) ∈ GW := GW_t 759 (by decide +kernel) rfl
theorem w_760 : Jvm.Cond.code ({ cls := "WidowRoads", name := "road", desc := "(II)I" } : Jvm.MethodName) prog_1_method_18_code (4 : Nat) (Option.some Jvm.ClassFile.FieldType.int) ∈ GW := GW_t 760 (by decide +kernel) rfl
theorem w_761 : Jvm.Cond.methodLink "WidowRoadsLaw" (85 : Nat) ({ cls := "WidowRoads", name := "roads", desc := "(I)I" } : Jvm.MethodName) ∈ GW := GW_t 761 (by decide +kernel) rfl
theorem w_762 : Jvm.Cond.instanceMethod ({ cls := "WidowRoads", name := "roads", desc := "(I)I" } : Jvm.MethodName) ∈ GW := GW_t 762 (by decide +kernel) rfl
theorem w_763 : Jvm.Cond.selects "WidowRoads" ({ cls := "WidowRoads", name := "roads", desc := "(I)I" } : Jvm.MethodName) ({ cls := "WidowRoads", name := "roads", desc := "(I)I" } : Jvm.MethodName) ∈ GW := GW_t 763 (by decide +kernel) rfl
theorem w_764 : Jvm.Cond.code ({ cls := "WidowRoads", name := "roads", desc := "(I)I" } : Jvm.MethodName) prog_1_method_19_code (2 : Nat) (Option.some Jvm.ClassFile.FieldType.int) ∈ GW := GW_t 764 (by decide +kernel) rfl
theorem w_765 : Jvm.Cond.methodLink "WidowRoadsLaw" (89 : Nat) ({ cls := "WidowRoads", name := "pegs", desc := "(I)I" } : Jvm.MethodName) ∈ GW := GW_t 765 (by decide +kernel) rfl
theorem w_766 : Jvm.Cond.instanceMethod ({ cls := "WidowRoads", name := "pegs", desc := "(I)I" } : Jvm.MethodName) ∈ GW := GW_t 766 (by decide +kernel) rfl
theorem w_767 : Jvm.Cond.selects "WidowRoads" ({ cls := "WidowRoads", name := "pegs", desc := "(I)I" } : Jvm.MethodName) ({ cls := "WidowRoads", name := "pegs", desc := "(I)I" } : Jvm.MethodName) ∈ GW := GW_t 767 (by decide +kernel) rfl
theorem w_768 : Jvm.Cond.code ({ cls := "WidowRoads", name := "pegs", desc := "(I)I" } : Jvm.MethodName) prog_1_method_20_code (2 : Nat) (Option.some Jvm.ClassFile.FieldType.int) ∈ GW := GW_t 768 (by decide +kernel) rfl
theorem w_774 : Jvm.Cond.methodLink "WidowRoadsLaw" (93 : Nat) ({ cls := "WidowRoads", name := "joins", desc := "(II)I" } : Jvm.MethodName) ∈ GW := GW_t 774 (by decide +kernel) rfl
theorem w_775 : Jvm.Cond.instanceMethod ({ cls := "WidowRoads", name := "joins", desc := "(II)I" } : Jvm.MethodName) ∈ GW := GW_t 775 (by decide +kernel) rfl
theorem w_776 : Jvm.Cond.selects "WidowRoads" ({ cls := "WidowRoads", name := "joins", desc := "(II)I" } : Jvm.MethodName) ({ cls := "WidowRoads", name := "joins", desc := "(II)I" } : Jvm.MethodName) ∈ GW := GW_t 776 (by decide +kernel) rfl
theorem w_777 : Jvm.Cond.code ({ cls := "WidowRoads", name := "joins", desc := "(II)I" } : Jvm.MethodName) prog_1_method_21_code (4 : Nat) (Option.some Jvm.ClassFile.FieldType.int) ∈ GW := GW_t 777 (by decide +kernel) rfl
theorem w_788 : Jvm.Cond.methodLink "WidowRoadsLaw" (97 : Nat) ({ cls := "WidowRoads", name := "corners", desc := "(II)I" } : Jvm.MethodName) ∈ GW := GW_t 788 (by decide +kernel) rfl
theorem w_789 : Jvm.Cond.instanceMethod ({ cls := "WidowRoads", name := "corners", desc := "(II)I" } : Jvm.MethodName) ∈ GW := GW_t 789 (by decide +kernel) rfl
theorem w_790 : Jvm.Cond.selects "WidowRoads" ({ cls := "WidowRoads", name := "corners", desc := "(II)I" } : Jvm.MethodName) ({ cls := "WidowRoads", name := "corners", desc := "(II)I" } : Jvm.MethodName) ∈ GW := GW_t 790 (by decide +kernel) rfl
theorem w_791 : Jvm.Cond.code ({ cls := "WidowRoads", name := "corners", desc := "(II)I" } : Jvm.MethodName) prog_1_method_22_code (3 : Nat) (Option.some Jvm.ClassFile.FieldType.int) ∈ GW := GW_t 791 (by decide +kernel) rfl
theorem w_803 : Jvm.Cond.methodLink "WidowRoadsLaw" (101 : Nat) ({ cls := "WidowRoads", name := "nets", desc := "(I)I" } : Jvm.MethodName) ∈ GW := GW_t 803 (by decide +kernel) rfl
theorem w_804 : Jvm.Cond.instanceMethod ({ cls := "WidowRoads", name := "nets", desc := "(I)I" } : Jvm.MethodName) ∈ GW := GW_t 804 (by decide +kernel) rfl
theorem w_805 : Jvm.Cond.selects "WidowRoads" ({ cls := "WidowRoads", name := "nets", desc := "(I)I" } : Jvm.MethodName) ({ cls := "WidowRoads", name := "nets", desc := "(I)I" } : Jvm.MethodName) ∈ GW := GW_t 805 (by decide +kernel) rfl
theorem w_806 : Jvm.Cond.code ({ cls := "WidowRoads", name := "nets", desc := "(I)I" } : Jvm.MethodName) prog_1_method_23_code (2 : Nat) (Option.some Jvm.ClassFile.FieldType.int) ∈ GW := GW_t 806 (by decide +kernel) rfl
theorem w_817 : Jvm.Cond.methodLink "WidowRoadsLaw" (105 : Nat) ({ cls := "WidowRoads", name := "missing", desc := "(I)I" } : Jvm.MethodName) ∈ GW := GW_t 817 (by decide +kernel) rfl
theorem w_818 : Jvm.Cond.instanceMethod ({ cls := "WidowRoads", name := "missing", desc := "(I)I" } : Jvm.MethodName) ∈ GW := GW_t 818 (by decide +kernel) rfl
theorem w_819 : Jvm.Cond.selects "WidowRoads" ({ cls := "WidowRoads", name := "missing", desc := "(I)I" } : Jvm.MethodName) ({ cls := "WidowRoads", name := "missing", desc := "(I)I" } : Jvm.MethodName) ∈ GW := GW_t 819 (by decide +kernel) rfl
theorem w_820 : Jvm.Cond.code ({ cls := "WidowRoads", name := "missing", desc := "(I)I" } : Jvm.MethodName) prog_1_method_24_code (3 : Nat) (Option.some Jvm.ClassFile.FieldType.int) ∈ GW := GW_t 820 (by decide +kernel) rfl
theorem w_824 : Jvm.Cond.methodLink "WidowRoadsLaw" (109 : Nat) ({ cls := "WidowRoads", name := "rings", desc := "(I)I" } : Jvm.MethodName) ∈ GW := GW_t 824 (by decide +kernel) rfl
theorem w_825 : Jvm.Cond.instanceMethod ({ cls := "WidowRoads", name := "rings", desc := "(I)I" } : Jvm.MethodName) ∈ GW := GW_t 825 (by decide +kernel) rfl
theorem w_826 : Jvm.Cond.selects "WidowRoads" ({ cls := "WidowRoads", name := "rings", desc := "(I)I" } : Jvm.MethodName) ({ cls := "WidowRoads", name := "rings", desc := "(I)I" } : Jvm.MethodName) ∈ GW := GW_t 826 (by decide +kernel) rfl
theorem w_827 : Jvm.Cond.code ({ cls := "WidowRoads", name := "rings", desc := "(I)I" } : Jvm.MethodName) prog_1_method_25_code (2 : Nat) (Option.some Jvm.ClassFile.FieldType.int) ∈ GW := GW_t 827 (by decide +kernel) rfl
theorem w_828 : Jvm.Cond.methodLink "WidowRoadsLaw" (113 : Nat) ({ cls := "WidowRoads", name := "bridges", desc := "(I)I" } : Jvm.MethodName) ∈ GW := GW_t 828 (by decide +kernel) rfl
theorem w_829 : Jvm.Cond.instanceMethod ({ cls := "WidowRoads", name := "bridges", desc := "(I)I" } : Jvm.MethodName) ∈ GW := GW_t 829 (by decide +kernel) rfl
theorem w_830 : Jvm.Cond.selects "WidowRoads" ({ cls := "WidowRoads", name := "bridges", desc := "(I)I" } : Jvm.MethodName) ({ cls := "WidowRoads", name := "bridges", desc := "(I)I" } : Jvm.MethodName) ∈ GW := GW_t 830 (by decide +kernel) rfl
theorem w_831 : Jvm.Cond.code ({ cls := "WidowRoads", name := "bridges", desc := "(I)I" } : Jvm.MethodName) prog_1_method_26_code (2 : Nat) (Option.some Jvm.ClassFile.FieldType.int) ∈ GW := GW_t 831 (by decide +kernel) rfl
theorem w_836 : Jvm.Cond.methodLink "WidowRoadsLaw" (117 : Nat) ({ cls := "WidowRoads", name := "net", desc := "(II)I" } : Jvm.MethodName) ∈ GW := GW_t 836 (by decide +kernel) rfl
theorem w_837 : Jvm.Cond.instanceMethod ({ cls := "WidowRoads", name := "net", desc := "(II)I" } : Jvm.MethodName) ∈ GW := GW_t 837 (by decide +kernel) rfl
theorem w_838 : Jvm.Cond.selects "WidowRoads" ({ cls := "WidowRoads", name := "net", desc := "(II)I" } : Jvm.MethodName) ({ cls := "WidowRoads", name := "net", desc := "(II)I" } : Jvm.MethodName) ∈ GW := GW_t 838 (by decide +kernel) rfl
theorem w_839 : Jvm.Cond.code ({ cls := "WidowRoads", name := "net", desc := "(II)I" } : Jvm.MethodName) prog_1_method_27_code (4 : Nat) (Option.some Jvm.ClassFile.FieldType.int) ∈ GW := GW_t 839 (by decide +kernel) rfl
theorem w_841 : Jvm.Cond.methodLink "WidowRoadsLaw" (121 : Nat) ({ cls := "WidowRoads", name := "way", desc := "(III)I" } : Jvm.MethodName) ∈ GW := GW_t 841 (by decide +kernel) rfl
theorem w_842 : Jvm.Cond.instanceMethod ({ cls := "WidowRoads", name := "way", desc := "(III)I" } : Jvm.MethodName) ∈ GW := GW_t 842 (by decide +kernel) rfl
theorem w_843 : Jvm.Cond.selects "WidowRoads" ({ cls := "WidowRoads", name := "way", desc := "(III)I" } : Jvm.MethodName) ({ cls := "WidowRoads", name := "way", desc := "(III)I" } : Jvm.MethodName) ∈ GW := GW_t 843 (by decide +kernel) rfl
theorem w_844 : Jvm.Cond.code ({ cls := "WidowRoads", name := "way", desc := "(III)I" } : Jvm.MethodName) prog_1_method_28_code (6 : Nat) (Option.some Jvm.ClassFile.FieldType.int) ∈ GW := GW_t 844 (by decide +kernel) rfl
theorem w_845 : Jvm.Cond.methodLink "WidowRoadsLaw" (126 : Nat) ({ cls := "WidowRoads", name := "beeline", desc := "(II)I" } : Jvm.MethodName) ∈ GW := GW_t 845 (by decide +kernel) rfl
theorem w_846 : Jvm.Cond.instanceMethod ({ cls := "WidowRoads", name := "beeline", desc := "(II)I" } : Jvm.MethodName) ∈ GW := GW_t 846 (by decide +kernel) rfl
theorem w_847 : Jvm.Cond.selects "WidowRoads" ({ cls := "WidowRoads", name := "beeline", desc := "(II)I" } : Jvm.MethodName) ({ cls := "WidowRoads", name := "beeline", desc := "(II)I" } : Jvm.MethodName) ∈ GW := GW_t 847 (by decide +kernel) rfl
theorem w_848 : Jvm.Cond.code ({ cls := "WidowRoads", name := "beeline", desc := "(II)I" } : Jvm.MethodName) prog_1_method_29_code (5 : Nat) (Option.some Jvm.ClassFile.FieldType.int) ∈ GW := GW_t 848 (by decide +kernel) rfl
theorem w_849 : Jvm.Cond.methodLink "WidowRoadsLaw" (130 : Nat) ({ cls := "WidowRoads", name := "farthest", desc := "(II)I" } : Jvm.MethodName) ∈ GW := GW_t 849 (by decide +kernel) rfl
theorem w_850 : Jvm.Cond.instanceMethod ({ cls := "WidowRoads", name := "farthest", desc := "(II)I" } : Jvm.MethodName) ∈ GW := GW_t 850 (by decide +kernel) rfl
theorem w_851 : Jvm.Cond.selects "WidowRoads" ({ cls := "WidowRoads", name := "farthest", desc := "(II)I" } : Jvm.MethodName) ({ cls := "WidowRoads", name := "farthest", desc := "(II)I" } : Jvm.MethodName) ∈ GW := GW_t 851 (by decide +kernel) rfl
theorem w_852 : Jvm.Cond.code ({ cls := "WidowRoads", name := "farthest", desc := "(II)I" } : Jvm.MethodName) prog_1_method_30_code (4 : Nat) (Option.some Jvm.ClassFile.FieldType.int) ∈ GW := GW_t 852 (by decide +kernel) rfl
theorem w_857 : Jvm.Cond.methodLink "WidowRoadsLaw" (134 : Nat) ({ cls := "WidowRoads", name := "crossing", desc := "()I" } : Jvm.MethodName) ∈ GW := GW_t 857 (by decide +kernel) rfl
theorem w_858 : Jvm.Cond.instanceMethod ({ cls := "WidowRoads", name := "crossing", desc := "()I" } : Jvm.MethodName) ∈ GW := GW_t 858 (by decide +kernel) rfl
theorem w_859 : Jvm.Cond.selects "WidowRoads" ({ cls := "WidowRoads", name := "crossing", desc := "()I" } : Jvm.MethodName) ({ cls := "WidowRoads", name := "crossing", desc := "()I" } : Jvm.MethodName) ∈ GW := GW_t 859 (by decide +kernel) rfl
theorem w_860 : Jvm.Cond.code ({ cls := "WidowRoads", name := "crossing", desc := "()I" } : Jvm.MethodName) prog_1_method_31_code (5 : Nat) (Option.some Jvm.ClassFile.FieldType.int) ∈ GW := GW_t 860 (by decide +kernel) rfl
theorem w_866 : Jvm.Cond.methodLink "WidowRoadsLaw" (138 : Nat) ({ cls := "WidowRoads", name := "shared", desc := "(II)I" } : Jvm.MethodName) ∈ GW := GW_t 866 (by decide +kernel) rfl
theorem w_867 : Jvm.Cond.instanceMethod ({ cls := "WidowRoads", name := "shared", desc := "(II)I" } : Jvm.MethodName) ∈ GW := GW_t 867 (by decide +kernel) rfl
theorem w_868 : Jvm.Cond.selects "WidowRoads" ({ cls := "WidowRoads", name := "shared", desc := "(II)I" } : Jvm.MethodName) ({ cls := "WidowRoads", name := "shared", desc := "(II)I" } : Jvm.MethodName) ∈ GW := GW_t 868 (by decide +kernel) rfl
theorem w_869 : Jvm.Cond.code ({ cls := "WidowRoads", name := "shared", desc := "(II)I" } : Jvm.MethodName) prog_1_method_32_code (3 : Nat) (Option.some Jvm.ClassFile.FieldType.int) ∈ GW := GW_t 869 (by decide +kernel) rfl
theorem w_870 : Jvm.Cond.methodLink "WidowRoadsLaw" (142 : Nat) ({ cls := "WidowRoads", name := "walked", desc := "(I)I" } : Jvm.MethodName) ∈ GW := GW_t 870 (by decide +kernel) rfl
theorem w_871 : Jvm.Cond.instanceMethod ({ cls := "WidowRoads", name := "walked", desc := "(I)I" } : Jvm.MethodName) ∈ GW := GW_t 871 (by decide +kernel) rfl
theorem w_872 : Jvm.Cond.selects "WidowRoads" ({ cls := "WidowRoads", name := "walked", desc := "(I)I" } : Jvm.MethodName) ({ cls := "WidowRoads", name := "walked", desc := "(I)I" } : Jvm.MethodName) ∈ GW := GW_t 872 (by decide +kernel) rfl
theorem w_873 : Jvm.Cond.code ({ cls := "WidowRoads", name := "walked", desc := "(I)I" } : Jvm.MethodName) prog_1_method_33_code (3 : Nat) (Option.some Jvm.ClassFile.FieldType.int) ∈ GW := GW_t 873 (by decide +kernel) rfl
theorem w_874 : Jvm.Cond.methodLink "WidowRoadsLaw" (146 : Nat) ({ cls := "WidowRoads", name := "first", desc := "(I)I" } : Jvm.MethodName) ∈ GW := GW_t 874 (by decide +kernel) rfl
theorem w_875 : Jvm.Cond.instanceMethod ({ cls := "WidowRoads", name := "first", desc := "(I)I" } : Jvm.MethodName) ∈ GW := GW_t 875 (by decide +kernel) rfl
theorem w_876 : Jvm.Cond.selects "WidowRoads" ({ cls := "WidowRoads", name := "first", desc := "(I)I" } : Jvm.MethodName) ({ cls := "WidowRoads", name := "first", desc := "(I)I" } : Jvm.MethodName) ∈ GW := GW_t 876 (by decide +kernel) rfl
theorem w_877 : Jvm.Cond.code ({ cls := "WidowRoads", name := "first", desc := "(I)I" } : Jvm.MethodName) prog_1_method_34_code (4 : Nat) (Option.some Jvm.ClassFile.FieldType.int) ∈ GW := GW_t 877 (by decide +kernel) rfl
theorem w_878 : Jvm.Cond.methodLink "WidowRoadsLaw" (150 : Nat) ({ cls := "WidowRoads", name := "line", desc := "(I)I" } : Jvm.MethodName) ∈ GW := GW_t 878 (by decide +kernel) rfl
theorem w_879 : Jvm.Cond.instanceMethod ({ cls := "WidowRoads", name := "line", desc := "(I)I" } : Jvm.MethodName) ∈ GW := GW_t 879 (by decide +kernel) rfl
theorem w_880 : Jvm.Cond.selects "WidowRoads" ({ cls := "WidowRoads", name := "line", desc := "(I)I" } : Jvm.MethodName) ({ cls := "WidowRoads", name := "line", desc := "(I)I" } : Jvm.MethodName) ∈ GW := GW_t 880 (by decide +kernel) rfl
theorem w_881 : Jvm.Cond.code ({ cls := "WidowRoads", name := "line", desc := "(I)I" } : Jvm.MethodName) prog_1_method_35_code (2 : Nat) (Option.some Jvm.ClassFile.FieldType.int) ∈ GW := GW_t 881 (by decide +kernel) rfl
theorem w_886 : Jvm.Cond.methodLink "WidowRoadsLaw" (154 : Nat) ({ cls := "WidowRoads", name := "house", desc := "(II)I" } : Jvm.MethodName) ∈ GW := GW_t 886 (by decide +kernel) rfl
theorem w_887 : Jvm.Cond.instanceMethod ({ cls := "WidowRoads", name := "house", desc := "(II)I" } : Jvm.MethodName) ∈ GW := GW_t 887 (by decide +kernel) rfl
theorem w_888 : Jvm.Cond.selects "WidowRoads" ({ cls := "WidowRoads", name := "house", desc := "(II)I" } : Jvm.MethodName) ({ cls := "WidowRoads", name := "house", desc := "(II)I" } : Jvm.MethodName) ∈ GW := GW_t 888 (by decide +kernel) rfl
theorem w_889 : Jvm.Cond.code ({ cls := "WidowRoads", name := "house", desc := "(II)I" } : Jvm.MethodName) prog_1_method_36_code (3 : Nat) (Option.some Jvm.ClassFile.FieldType.int) ∈ GW := GW_t 889 (by decide +kernel) rfl
theorem w_892 : Jvm.Cond.instanceMethod ({ cls := "WidowRoads$Colony", name := "hasHouse", desc := "(I)Z" } : Jvm.MethodName) ∈ GW := GW_t 892 (by decide +kernel) rfl
theorem w_893 : Jvm.Cond.code ({ cls := "WidowRoads$Colony", name := "hasHouse", desc := "(I)Z" } : Jvm.MethodName) prog_2_method_5_code (2 : Nat) (Option.some Jvm.ClassFile.FieldType.boolean) ∈ GW := GW_t 893 (by decide +kernel) rfl
theorem w_894 : Jvm.Cond.methodLink "WidowRoadsLaw" (158 : Nat) ({ cls := "WidowRoads", name := "moved", desc := "(I)I" } : Jvm.MethodName) ∈ GW := GW_t 894 (by decide +kernel) rfl
theorem w_895 : Jvm.Cond.instanceMethod ({ cls := "WidowRoads", name := "moved", desc := "(I)I" } : Jvm.MethodName) ∈ GW := GW_t 895 (by decide +kernel) rfl
theorem w_896 : Jvm.Cond.selects "WidowRoads" ({ cls := "WidowRoads", name := "moved", desc := "(I)I" } : Jvm.MethodName) ({ cls := "WidowRoads", name := "moved", desc := "(I)I" } : Jvm.MethodName) ∈ GW := GW_t 896 (by decide +kernel) rfl
theorem w_897 : Jvm.Cond.code ({ cls := "WidowRoads", name := "moved", desc := "(I)I" } : Jvm.MethodName) prog_1_method_37_code (2 : Nat) (Option.some Jvm.ClassFile.FieldType.int) ∈ GW := GW_t 897 (by decide +kernel) rfl
theorem w_898 : Jvm.Cond.methodLink "WidowRoadsLaw" (162 : Nat) ({ cls := "WidowRoads", name := "moves", desc := "(I)I" } : Jvm.MethodName) ∈ GW := GW_t 898 (by decide +kernel) rfl
theorem w_899 : Jvm.Cond.instanceMethod ({ cls := "WidowRoads", name := "moves", desc := "(I)I" } : Jvm.MethodName) ∈ GW := GW_t 899 (by decide +kernel) rfl
theorem w_900 : Jvm.Cond.selects "WidowRoads" ({ cls := "WidowRoads", name := "moves", desc := "(I)I" } : Jvm.MethodName) ({ cls := "WidowRoads", name := "moves", desc := "(I)I" } : Jvm.MethodName) ∈ GW := GW_t 900 (by decide +kernel) rfl
theorem w_901 : Jvm.Cond.code ({ cls := "WidowRoads", name := "moves", desc := "(I)I" } : Jvm.MethodName) prog_1_method_38_code (2 : Nat) (Option.some Jvm.ClassFile.FieldType.int) ∈ GW := GW_t 901 (by decide +kernel) rfl
theorem w_902 : Jvm.Cond.methodLink "WidowRoadsLaw" (166 : Nat) ({ cls := "WidowRoads", name := "served", desc := "(I)I" } : Jvm.MethodName) ∈ GW := GW_t 902 (by decide +kernel) rfl
theorem w_903 : Jvm.Cond.instanceMethod ({ cls := "WidowRoads", name := "served", desc := "(I)I" } : Jvm.MethodName) ∈ GW := GW_t 903 (by decide +kernel) rfl
theorem w_904 : Jvm.Cond.selects "WidowRoads" ({ cls := "WidowRoads", name := "served", desc := "(I)I" } : Jvm.MethodName) ({ cls := "WidowRoads", name := "served", desc := "(I)I" } : Jvm.MethodName) ∈ GW := GW_t 904 (by decide +kernel) rfl
theorem w_905 : Jvm.Cond.code ({ cls := "WidowRoads", name := "served", desc := "(I)I" } : Jvm.MethodName) prog_1_method_39_code (5 : Nat) (Option.some Jvm.ClassFile.FieldType.int) ∈ GW := GW_t 905 (by decide +kernel) rfl
theorem w_911 : Jvm.Cond.methodLink "WidowRoadsLaw" (170 : Nat) ({ cls := "WidowRoads", name := "cover", desc := "()I" } : Jvm.MethodName) ∈ GW := GW_t 911 (by decide +kernel) rfl
theorem w_912 : Jvm.Cond.instanceMethod ({ cls := "WidowRoads", name := "cover", desc := "()I" } : Jvm.MethodName) ∈ GW := GW_t 912 (by decide +kernel) rfl
theorem w_913 : Jvm.Cond.selects "WidowRoads" ({ cls := "WidowRoads", name := "cover", desc := "()I" } : Jvm.MethodName) ({ cls := "WidowRoads", name := "cover", desc := "()I" } : Jvm.MethodName) ∈ GW := GW_t 913 (by decide +kernel) rfl
theorem w_914 : Jvm.Cond.code ({ cls := "WidowRoads", name := "cover", desc := "()I" } : Jvm.MethodName) prog_1_method_40_code (1 : Nat) (Option.some Jvm.ClassFile.FieldType.int) ∈ GW := GW_t 914 (by decide +kernel) rfl
theorem w_923 : Jvm.Cond.methodLink "WidowRoadsLaw" (174 : Nat) ({ cls := "WidowRoads", name := "covers", desc := "()I" } : Jvm.MethodName) ∈ GW := GW_t 923 (by decide +kernel) rfl
theorem w_924 : Jvm.Cond.instanceMethod ({ cls := "WidowRoads", name := "covers", desc := "()I" } : Jvm.MethodName) ∈ GW := GW_t 924 (by decide +kernel) rfl
theorem w_925 : Jvm.Cond.selects "WidowRoads" ({ cls := "WidowRoads", name := "covers", desc := "()I" } : Jvm.MethodName) ({ cls := "WidowRoads", name := "covers", desc := "()I" } : Jvm.MethodName) ∈ GW := GW_t 925 (by decide +kernel) rfl
theorem w_926 : Jvm.Cond.code ({ cls := "WidowRoads", name := "covers", desc := "()I" } : Jvm.MethodName) prog_1_method_41_code (1 : Nat) (Option.some Jvm.ClassFile.FieldType.int) ∈ GW := GW_t 926 (by decide +kernel) rfl
theorem w_927 : Jvm.Cond.methodLink "WidowRoadsLaw" (178 : Nat) ({ cls := "WidowRoads", name := "blame", desc := "()I" } : Jvm.MethodName) ∈ GW := GW_t 927 (by decide +kernel) rfl
theorem w_928 : Jvm.Cond.instanceMethod ({ cls := "WidowRoads", name := "blame", desc := "()I" } : Jvm.MethodName) ∈ GW := GW_t 928 (by decide +kernel) rfl
theorem w_929 : Jvm.Cond.selects "WidowRoads" ({ cls := "WidowRoads", name := "blame", desc := "()I" } : Jvm.MethodName) ({ cls := "WidowRoads", name := "blame", desc := "()I" } : Jvm.MethodName) ∈ GW := GW_t 929 (by decide +kernel) rfl
theorem w_930 : Jvm.Cond.code ({ cls := "WidowRoads", name := "blame", desc := "()I" } : Jvm.MethodName) prog_1_method_42_code (4 : Nat) (Option.some Jvm.ClassFile.FieldType.int) ∈ GW := GW_t 930 (by decide +kernel) rfl
theorem w_935 : Jvm.Cond.methodLink "WidowRoadsLaw" (182 : Nat) ({ cls := "WidowRoads", name := "ford", desc := "()I" } : Jvm.MethodName) ∈ GW := GW_t 935 (by decide +kernel) rfl
theorem w_936 : Jvm.Cond.instanceMethod ({ cls := "WidowRoads", name := "ford", desc := "()I" } : Jvm.MethodName) ∈ GW := GW_t 936 (by decide +kernel) rfl
theorem w_937 : Jvm.Cond.selects "WidowRoads" ({ cls := "WidowRoads", name := "ford", desc := "()I" } : Jvm.MethodName) ({ cls := "WidowRoads", name := "ford", desc := "()I" } : Jvm.MethodName) ∈ GW := GW_t 937 (by decide +kernel) rfl
theorem w_938 : Jvm.Cond.code ({ cls := "WidowRoads", name := "ford", desc := "()I" } : Jvm.MethodName) prog_1_method_43_code (4 : Nat) (Option.some Jvm.ClassFile.FieldType.int) ∈ GW := GW_t 938 (by decide +kernel) rfl
theorem w_939 : Jvm.Cond.methodLink "WidowRoadsLaw" (186 : Nat) ({ cls := "WidowRoads", name := "faced", desc := "(II)I" } : Jvm.MethodName) ∈ GW := GW_t 939 (by decide +kernel) rfl
theorem w_940 : Jvm.Cond.instanceMethod ({ cls := "WidowRoads", name := "faced", desc := "(II)I" } : Jvm.MethodName) ∈ GW := GW_t 940 (by decide +kernel) rfl
theorem w_941 : Jvm.Cond.selects "WidowRoads" ({ cls := "WidowRoads", name := "faced", desc := "(II)I" } : Jvm.MethodName) ({ cls := "WidowRoads", name := "faced", desc := "(II)I" } : Jvm.MethodName) ∈ GW := GW_t 941 (by decide +kernel) rfl
theorem w_942 : Jvm.Cond.code ({ cls := "WidowRoads", name := "faced", desc := "(II)I" } : Jvm.MethodName) prog_1_method_44_code (4 : Nat) (Option.some Jvm.ClassFile.FieldType.int) ∈ GW := GW_t 942 (by decide +kernel) rfl
theorem w_943 : Jvm.Cond.methodLink "WidowRoads" (295 : Nat) ({ cls := "WidowRoads", name := "refusalOfSeen", desc := "(II)I" } : Jvm.MethodName) ∈ GW := GW_t 943 (by decide +kernel) rfl
theorem w_945 : Jvm.Cond.instanceMethod ({ cls := "WidowRoads", name := "refusalOfSeen", desc := "(II)I" } : Jvm.MethodName) ∈ GW := GW_t 945 (by decide +kernel) rfl
theorem w_946 : Jvm.Cond.code ({ cls := "WidowRoads", name := "refusalOfSeen", desc := "(II)I" } : Jvm.MethodName) prog_1_method_76_code (3 : Nat) (Option.some Jvm.ClassFile.FieldType.int) ∈ GW := GW_t 946 (by decide +kernel) rfl
theorem w_947 : Jvm.Cond.methodLink "WidowRoads" (317 : Nat) ({ cls := "WidowRoads", name := "refusalOfRow", desc := "(I)I" } : Jvm.MethodName) ∈ GW := GW_t 947 (by decide +kernel) rfl
theorem w_949 : Jvm.Cond.instanceMethod ({ cls := "WidowRoads", name := "refusalOfRow", desc := "(I)I" } : Jvm.MethodName) ∈ GW := GW_t 949 (by decide +kernel) rfl
theorem w_950 : Jvm.Cond.code ({ cls := "WidowRoads", name := "refusalOfRow", desc := "(I)I" } : Jvm.MethodName) prog_1_method_77_code (2 : Nat) (Option.some Jvm.ClassFile.FieldType.int) ∈ GW := GW_t 950 (by decide +kernel) rfl
theorem w_951 : Jvm.Cond.methodLink "WidowRoads" (388 : Nat) ({ cls := "WidowRoads", name := "isSlot", desc := "(I)Z" } : Jvm.MethodName) ∈ GW := GW_t 951 (by decide +kernel) rfl
theorem w_952 : Jvm.Cond.static ({ cls := "WidowRoads", name := "isSlot", desc := "(I)Z" } : Jvm.MethodName) ∈ GW := GW_t 952 (by decide +kernel) rfl
theorem w_953 : Jvm.Cond.code ({ cls := "WidowRoads", name := "isSlot", desc := "(I)Z" } : Jvm.MethodName) prog_1_method_86_code (1 : Nat) (Option.some Jvm.ClassFile.FieldType.boolean) ∈ GW := GW_t 953 (by decide +kernel) rfl
theorem w_956 : Jvm.Cond.instanceMethod ({ cls := "WidowRoads$Rows", name := "empty", desc := "(I)Z" } : Jvm.MethodName) ∈ GW := GW_t 956 (by decide +kernel) rfl
theorem w_957 : Jvm.Cond.code ({ cls := "WidowRoads$Rows", name := "empty", desc := "(I)Z" } : Jvm.MethodName) prog_7_method_2_code (2 : Nat) (Option.some Jvm.ClassFile.FieldType.boolean) ∈ GW := GW_t 957 (by decide +kernel) rfl
theorem w_974 : Jvm.Cond.methodLink "WidowRoadsLaw" (190 : Nat) ({ cls := "WidowRoads", name := "griefs", desc := "(II)I" } : Jvm.MethodName) ∈ GW := GW_t 974 (by decide +kernel) rfl
theorem w_975 : Jvm.Cond.instanceMethod ({ cls := "WidowRoads", name := "griefs", desc := "(II)I" } : Jvm.MethodName) ∈ GW := GW_t 975 (by decide +kernel) rfl
theorem w_976 : Jvm.Cond.selects "WidowRoads" ({ cls := "WidowRoads", name := "griefs", desc := "(II)I" } : Jvm.MethodName) ({ cls := "WidowRoads", name := "griefs", desc := "(II)I" } : Jvm.MethodName) ∈ GW := GW_t 976 (by decide +kernel) rfl
theorem w_977 : Jvm.Cond.code ({ cls := "WidowRoads", name := "griefs", desc := "(II)I" } : Jvm.MethodName) prog_1_method_45_code (6 : Nat) (Option.some Jvm.ClassFile.FieldType.int) ∈ GW := GW_t 977 (by decide +kernel) rfl
theorem w_978 : Jvm.Cond.methodLink "WidowRoadsLaw" (194 : Nat) ({ cls := "WidowRoads", name := "ask", desc := "(II)I" } : Jvm.MethodName) ∈ GW := GW_t 978 (by decide +kernel) rfl
theorem w_979 : Jvm.Cond.instanceMethod ({ cls := "WidowRoads", name := "ask", desc := "(II)I" } : Jvm.MethodName) ∈ GW := GW_t 979 (by decide +kernel) rfl
theorem w_980 : Jvm.Cond.selects "WidowRoads" ({ cls := "WidowRoads", name := "ask", desc := "(II)I" } : Jvm.MethodName) ({ cls := "WidowRoads", name := "ask", desc := "(II)I" } : Jvm.MethodName) ∈ GW := GW_t 980 (by decide +kernel) rfl
theorem w_981 : Jvm.Cond.code ({ cls := "WidowRoads", name := "ask", desc := "(II)I" } : Jvm.MethodName) prog_1_method_46_code (9 : Nat) (Option.some Jvm.ClassFile.FieldType.int) ∈ GW := GW_t 981 (by decide +kernel) rfl
theorem w_986 : Jvm.Cond.methodLink "WidowRoadsLaw" (198 : Nat) ({ cls := "WidowRoads", name := "leaves", desc := "(II)I" } : Jvm.MethodName) ∈ GW := GW_t 986 (by decide +kernel) rfl
theorem w_987 : Jvm.Cond.instanceMethod ({ cls := "WidowRoads", name := "leaves", desc := "(II)I" } : Jvm.MethodName) ∈ GW := GW_t 987 (by decide +kernel) rfl
theorem w_988 : Jvm.Cond.selects "WidowRoads" ({ cls := "WidowRoads", name := "leaves", desc := "(II)I" } : Jvm.MethodName) ({ cls := "WidowRoads", name := "leaves", desc := "(II)I" } : Jvm.MethodName) ∈ GW := GW_t 988 (by decide +kernel) rfl
theorem w_989 : Jvm.Cond.code ({ cls := "WidowRoads", name := "leaves", desc := "(II)I" } : Jvm.MethodName) prog_1_method_47_code (7 : Nat) (Option.some Jvm.ClassFile.FieldType.int) ∈ GW := GW_t 989 (by decide +kernel) rfl
theorem w_991 : Jvm.Cond.methodLink "WidowRoadsLaw" (202 : Nat) ({ cls := "WidowRoads", name := "laws", desc := "(I)I" } : Jvm.MethodName) ∈ GW := GW_t 991 (by decide +kernel) rfl
theorem w_992 : Jvm.Cond.instanceMethod ({ cls := "WidowRoads", name := "laws", desc := "(I)I" } : Jvm.MethodName) ∈ GW := GW_t 992 (by decide +kernel) rfl
theorem w_993 : Jvm.Cond.selects "WidowRoads" ({ cls := "WidowRoads", name := "laws", desc := "(I)I" } : Jvm.MethodName) ({ cls := "WidowRoads", name := "laws", desc := "(I)I" } : Jvm.MethodName) ∈ GW := GW_t 993 (by decide +kernel) rfl
theorem w_994 : Jvm.Cond.code ({ cls := "WidowRoads", name := "laws", desc := "(I)I" } : Jvm.MethodName) prog_1_method_48_code (5 : Nat) (Option.some Jvm.ClassFile.FieldType.int) ∈ GW := GW_t 994 (by decide +kernel) rfl
theorem w_999 : Jvm.Cond.methodLink "WidowRoadsLaw" (206 : Nat) ({ cls := "WidowRoads", name := "by", desc := "(I)I" } : Jvm.MethodName) ∈ GW := GW_t 999 (by decide +kernel) rfl
theorem w_1000 : Jvm.Cond.instanceMethod ({ cls := "WidowRoads", name := "by", desc := "(I)I" } : Jvm.MethodName) ∈ GW := GW_t 1000 (by decide +kernel) rfl
theorem w_1001 : Jvm.Cond.selects "WidowRoads" ({ cls := "WidowRoads", name := "by", desc := "(I)I" } : Jvm.MethodName) ({ cls := "WidowRoads", name := "by", desc := "(I)I" } : Jvm.MethodName) ∈ GW := GW_t 1001 (by decide +kernel) rfl
theorem w_1002 : Jvm.Cond.code ({ cls := "WidowRoads", name := "by", desc := "(I)I" } : Jvm.MethodName) prog_1_method_49_code (2 : Nat) (Option.some Jvm.ClassFile.FieldType.int) ∈ GW := GW_t 1002 (by decide +kernel) rfl
theorem w_1003 : Jvm.Cond.methodLink "WidowRoadsLaw" (210 : Nat) ({ cls := "WidowRoads", name := "law", desc := "()I" } : Jvm.MethodName) ∈ GW := GW_t 1003 (by decide +kernel) rfl
theorem w_1004 : Jvm.Cond.instanceMethod ({ cls := "WidowRoads", name := "law", desc := "()I" } : Jvm.MethodName) ∈ GW := GW_t 1004 (by decide +kernel) rfl
theorem w_1005 : Jvm.Cond.selects "WidowRoads" ({ cls := "WidowRoads", name := "law", desc := "()I" } : Jvm.MethodName) ({ cls := "WidowRoads", name := "law", desc := "()I" } : Jvm.MethodName) ∈ GW := GW_t 1005 (by decide +kernel) rfl
theorem w_1006 : Jvm.Cond.code ({ cls := "WidowRoads", name := "law", desc := "()I" } : Jvm.MethodName) prog_1_method_50_code (4 : Nat) (Option.some Jvm.ClassFile.FieldType.int) ∈ GW := GW_t 1006 (by decide +kernel) rfl
theorem w_1007 : Jvm.Cond.methodLink "WidowRoadsLaw" (214 : Nat) ({ cls := "WidowRoads", name := "worth", desc := "(I)I" } : Jvm.MethodName) ∈ GW := GW_t 1007 (by decide +kernel) rfl
theorem w_1008 : Jvm.Cond.instanceMethod ({ cls := "WidowRoads", name := "worth", desc := "(I)I" } : Jvm.MethodName) ∈ GW := GW_t 1008 (by decide +kernel) rfl
theorem w_1009 : Jvm.Cond.selects "WidowRoads" ({ cls := "WidowRoads", name := "worth", desc := "(I)I" } : Jvm.MethodName) ({ cls := "WidowRoads", name := "worth", desc := "(I)I" } : Jvm.MethodName) ∈ GW := GW_t 1009 (by decide +kernel) rfl
theorem w_1010 : Jvm.Cond.code ({ cls := "WidowRoads", name := "worth", desc := "(I)I" } : Jvm.MethodName) prog_1_method_51_code (2 : Nat) (Option.some Jvm.ClassFile.FieldType.int) ∈ GW := GW_t 1010 (by decide +kernel) rfl
theorem w_1018 : Jvm.Cond.methodLink "WidowRoadsLaw" (218 : Nat) ({ cls := "WidowRoads", name := "share", desc := "(II)I" } : Jvm.MethodName) ∈ GW := GW_t 1018 (by decide +kernel) rfl
theorem w_1019 : Jvm.Cond.instanceMethod ({ cls := "WidowRoads", name := "share", desc := "(II)I" } : Jvm.MethodName) ∈ GW := GW_t 1019 (by decide +kernel) rfl
theorem w_1020 : Jvm.Cond.selects "WidowRoads" ({ cls := "WidowRoads", name := "share", desc := "(II)I" } : Jvm.MethodName) ({ cls := "WidowRoads", name := "share", desc := "(II)I" } : Jvm.MethodName) ∈ GW := GW_t 1020 (by decide +kernel) rfl
theorem w_1021 : Jvm.Cond.code ({ cls := "WidowRoads", name := "share", desc := "(II)I" } : Jvm.MethodName) prog_1_method_52_code (3 : Nat) (Option.some Jvm.ClassFile.FieldType.int) ∈ GW := GW_t 1021 (by decide +kernel) rfl
theorem w_1025 : Jvm.Cond.constant "WidowRoads" (333 : Nat) (-1000000 : Int32) ∈ GW := GW_t 1025 (by decide +kernel) rfl
theorem w_1045 : Jvm.Cond.methodLink "WidowRoadsLaw" (222 : Nat) ({ cls := "WidowRoads", name := "rests", desc := "(II)I" } : Jvm.MethodName) ∈ GW := GW_t 1045 (by decide +kernel) rfl
theorem w_1046 : Jvm.Cond.instanceMethod ({ cls := "WidowRoads", name := "rests", desc := "(II)I" } : Jvm.MethodName) ∈ GW := GW_t 1046 (by decide +kernel) rfl
theorem w_1047 : Jvm.Cond.selects "WidowRoads" ({ cls := "WidowRoads", name := "rests", desc := "(II)I" } : Jvm.MethodName) ({ cls := "WidowRoads", name := "rests", desc := "(II)I" } : Jvm.MethodName) ∈ GW := GW_t 1047 (by decide +kernel) rfl
theorem w_1048 : Jvm.Cond.code ({ cls := "WidowRoads", name := "rests", desc := "(II)I" } : Jvm.MethodName) prog_1_method_53_code (9 : Nat) (Option.some Jvm.ClassFile.FieldType.int) ∈ GW := GW_t 1048 (by decide +kernel) rfl
theorem w_1049 : Jvm.Cond.methodLink "WidowRoads" (341 : Nat) ({ cls := "WidowRoads", name := "areTwo", desc := "(II)Z" } : Jvm.MethodName) ∈ GW := GW_t 1049 (by decide +kernel) rfl
theorem w_1051 : Jvm.Cond.instanceMethod ({ cls := "WidowRoads", name := "areTwo", desc := "(II)Z" } : Jvm.MethodName) ∈ GW := GW_t 1051 (by decide +kernel) rfl
theorem w_1052 : Jvm.Cond.code ({ cls := "WidowRoads", name := "areTwo", desc := "(II)Z" } : Jvm.MethodName) prog_1_method_84_code (3 : Nat) (Option.some Jvm.ClassFile.FieldType.boolean) ∈ GW := GW_t 1052 (by decide +kernel) rfl
theorem w_1065 : Jvm.Cond.methodLink "WidowRoadsLaw" (226 : Nat) ({ cls := "WidowRoads", name := "gets", desc := "(IIII)I" } : Jvm.MethodName) ∈ GW := GW_t 1065 (by decide +kernel) rfl
theorem w_1066 : Jvm.Cond.instanceMethod ({ cls := "WidowRoads", name := "gets", desc := "(IIII)I" } : Jvm.MethodName) ∈ GW := GW_t 1066 (by decide +kernel) rfl
theorem w_1067 : Jvm.Cond.selects "WidowRoads" ({ cls := "WidowRoads", name := "gets", desc := "(IIII)I" } : Jvm.MethodName) ({ cls := "WidowRoads", name := "gets", desc := "(IIII)I" } : Jvm.MethodName) ∈ GW := GW_t 1067 (by decide +kernel) rfl
theorem w_1068 : Jvm.Cond.code ({ cls := "WidowRoads", name := "gets", desc := "(IIII)I" } : Jvm.MethodName) prog_1_method_54_code (5 : Nat) (Option.some Jvm.ClassFile.FieldType.int) ∈ GW := GW_t 1068 (by decide +kernel) rfl
theorem w_1069 : Jvm.Cond.methodLink "WidowRoadsLaw" (231 : Nat) ({ cls := "WidowRoads", name := "chance", desc := "(II)J" } : Jvm.MethodName) ∈ GW := GW_t 1069 (by decide +kernel) rfl
theorem w_1070 : Jvm.Cond.instanceMethod ({ cls := "WidowRoads", name := "chance", desc := "(II)J" } : Jvm.MethodName) ∈ GW := GW_t 1070 (by decide +kernel) rfl
theorem w_1071 : Jvm.Cond.selects "WidowRoads" ({ cls := "WidowRoads", name := "chance", desc := "(II)J" } : Jvm.MethodName) ({ cls := "WidowRoads", name := "chance", desc := "(II)J" } : Jvm.MethodName) ∈ GW := GW_t 1071 (by decide +kernel) rfl
theorem w_1072 : Jvm.Cond.code ({ cls := "WidowRoads", name := "chance", desc := "(II)J" } : Jvm.MethodName) prog_1_method_55_code (4 : Nat) (Option.some Jvm.ClassFile.FieldType.long) ∈ GW := GW_t 1072 (by decide +kernel) rfl
theorem w_1073 : Jvm.Cond.constantLong "WidowRoads" (349 : Nat) (-2 : Int64) ∈ GW := GW_t 1073 (by decide +kernel) rfl
theorem w_1085 : Jvm.Cond.methodLink "WidowRoadsLaw" (236 : Nat) ({ cls := "WidowRoads", name := "mean", desc := "(I)J" } : Jvm.MethodName) ∈ GW := GW_t 1085 (by decide +kernel) rfl
theorem w_1086 : Jvm.Cond.instanceMethod ({ cls := "WidowRoads", name := "mean", desc := "(I)J" } : Jvm.MethodName) ∈ GW := GW_t 1086 (by decide +kernel) rfl
theorem w_1087 : Jvm.Cond.selects "WidowRoads" ({ cls := "WidowRoads", name := "mean", desc := "(I)J" } : Jvm.MethodName) ({ cls := "WidowRoads", name := "mean", desc := "(I)J" } : Jvm.MethodName) ∈ GW := GW_t 1087 (by decide +kernel) rfl
theorem w_1088 : Jvm.Cond.code ({ cls := "WidowRoads", name := "mean", desc := "(I)J" } : Jvm.MethodName) prog_1_method_56_code (2 : Nat) (Option.some Jvm.ClassFile.FieldType.long) ∈ GW := GW_t 1088 (by decide +kernel) rfl
theorem w_1093 : Jvm.Cond.methodLink "WidowRoadsLaw" (241 : Nat) ({ cls := "WidowRoads", name := "bridge", desc := "(I)I" } : Jvm.MethodName) ∈ GW := GW_t 1093 (by decide +kernel) rfl
theorem w_1094 : Jvm.Cond.instanceMethod ({ cls := "WidowRoads", name := "bridge", desc := "(I)I" } : Jvm.MethodName) ∈ GW := GW_t 1094 (by decide +kernel) rfl
theorem w_1095 : Jvm.Cond.selects "WidowRoads" ({ cls := "WidowRoads", name := "bridge", desc := "(I)I" } : Jvm.MethodName) ({ cls := "WidowRoads", name := "bridge", desc := "(I)I" } : Jvm.MethodName) ∈ GW := GW_t 1095 (by decide +kernel) rfl
theorem w_1096 : Jvm.Cond.code ({ cls := "WidowRoads", name := "bridge", desc := "(I)I" } : Jvm.MethodName) prog_1_method_57_code (3 : Nat) (Option.some Jvm.ClassFile.FieldType.int) ∈ GW := GW_t 1096 (by decide +kernel) rfl
theorem w_1101 : Jvm.Cond.methodLink "WidowRoadsLaw" (245 : Nat) ({ cls := "WidowRoads", name := "keeps", desc := "(I)I" } : Jvm.MethodName) ∈ GW := GW_t 1101 (by decide +kernel) rfl
theorem w_1102 : Jvm.Cond.instanceMethod ({ cls := "WidowRoads", name := "keeps", desc := "(I)I" } : Jvm.MethodName) ∈ GW := GW_t 1102 (by decide +kernel) rfl
theorem w_1103 : Jvm.Cond.selects "WidowRoads" ({ cls := "WidowRoads", name := "keeps", desc := "(I)I" } : Jvm.MethodName) ({ cls := "WidowRoads", name := "keeps", desc := "(I)I" } : Jvm.MethodName) ∈ GW := GW_t 1103 (by decide +kernel) rfl
theorem w_1104 : Jvm.Cond.code ({ cls := "WidowRoads", name := "keeps", desc := "(I)I" } : Jvm.MethodName) prog_1_method_58_code (2 : Nat) (Option.some Jvm.ClassFile.FieldType.int) ∈ GW := GW_t 1104 (by decide +kernel) rfl
theorem w_1105 : Jvm.Cond.methodLink "WidowRoadsLaw" (249 : Nat) ({ cls := "WidowRoads", name := "undo", desc := "()I" } : Jvm.MethodName) ∈ GW := GW_t 1105 (by decide +kernel) rfl
theorem w_1106 : Jvm.Cond.instanceMethod ({ cls := "WidowRoads", name := "undo", desc := "()I" } : Jvm.MethodName) ∈ GW := GW_t 1106 (by decide +kernel) rfl
theorem w_1107 : Jvm.Cond.selects "WidowRoads" ({ cls := "WidowRoads", name := "undo", desc := "()I" } : Jvm.MethodName) ({ cls := "WidowRoads", name := "undo", desc := "()I" } : Jvm.MethodName) ∈ GW := GW_t 1107 (by decide +kernel) rfl
theorem w_1108 : Jvm.Cond.code ({ cls := "WidowRoads", name := "undo", desc := "()I" } : Jvm.MethodName) prog_1_method_59_code (1 : Nat) (Option.some Jvm.ClassFile.FieldType.int) ∈ GW := GW_t 1108 (by decide +kernel) rfl
theorem w_1109 : Jvm.Cond.methodLink "WidowRoadsLaw" (253 : Nat) ({ cls := "WidowRoads", name := "anew", desc := "()I" } : Jvm.MethodName) ∈ GW := GW_t 1109 (by decide +kernel) rfl
theorem w_1110 : Jvm.Cond.instanceMethod ({ cls := "WidowRoads", name := "anew", desc := "()I" } : Jvm.MethodName) ∈ GW := GW_t 1110 (by decide +kernel) rfl
theorem w_1111 : Jvm.Cond.selects "WidowRoads" ({ cls := "WidowRoads", name := "anew", desc := "()I" } : Jvm.MethodName) ({ cls := "WidowRoads", name := "anew", desc := "()I" } : Jvm.MethodName) ∈ GW := GW_t 1111 (by decide +kernel) rfl
theorem w_1112 : Jvm.Cond.code ({ cls := "WidowRoads", name := "anew", desc := "()I" } : Jvm.MethodName) prog_1_method_60_code (2 : Nat) (Option.some Jvm.ClassFile.FieldType.int) ∈ GW := GW_t 1112 (by decide +kernel) rfl
theorem w_1113 : Jvm.Cond.methodLink "WidowRoadsLaw" (257 : Nat) ({ cls := "WidowRoads", name := "drawn", desc := "(II)I" } : Jvm.MethodName) ∈ GW := GW_t 1113 (by decide +kernel) rfl
theorem w_1114 : Jvm.Cond.instanceMethod ({ cls := "WidowRoads", name := "drawn", desc := "(II)I" } : Jvm.MethodName) ∈ GW := GW_t 1114 (by decide +kernel) rfl
theorem w_1115 : Jvm.Cond.selects "WidowRoads" ({ cls := "WidowRoads", name := "drawn", desc := "(II)I" } : Jvm.MethodName) ({ cls := "WidowRoads", name := "drawn", desc := "(II)I" } : Jvm.MethodName) ∈ GW := GW_t 1115 (by decide +kernel) rfl
theorem w_1116 : Jvm.Cond.code ({ cls := "WidowRoads", name := "drawn", desc := "(II)I" } : Jvm.MethodName) prog_1_method_61_code (4 : Nat) (Option.some Jvm.ClassFile.FieldType.int) ∈ GW := GW_t 1116 (by decide +kernel) rfl
theorem w_1130 : Jvm.Cond.methodLink "WidowRoadsLaw" (261 : Nat) ({ cls := "WidowRoads", name := "luck", desc := "(III)I" } : Jvm.MethodName) ∈ GW := GW_t 1130 (by decide +kernel) rfl
theorem w_1131 : Jvm.Cond.instanceMethod ({ cls := "WidowRoads", name := "luck", desc := "(III)I" } : Jvm.MethodName) ∈ GW := GW_t 1131 (by decide +kernel) rfl
theorem w_1132 : Jvm.Cond.selects "WidowRoads" ({ cls := "WidowRoads", name := "luck", desc := "(III)I" } : Jvm.MethodName) ({ cls := "WidowRoads", name := "luck", desc := "(III)I" } : Jvm.MethodName) ∈ GW := GW_t 1132 (by decide +kernel) rfl
theorem w_1133 : Jvm.Cond.code ({ cls := "WidowRoads", name := "luck", desc := "(III)I" } : Jvm.MethodName) prog_1_method_62_code (7 : Nat) (Option.some Jvm.ClassFile.FieldType.int) ∈ GW := GW_t 1133 (by decide +kernel) rfl
theorem w_1134 : Jvm.Cond.methodLink "WidowRoadsLaw" (265 : Nat) ({ cls := "WidowRoads", name := "rate", desc := "(II)I" } : Jvm.MethodName) ∈ GW := GW_t 1134 (by decide +kernel) rfl
theorem w_1135 : Jvm.Cond.instanceMethod ({ cls := "WidowRoads", name := "rate", desc := "(II)I" } : Jvm.MethodName) ∈ GW := GW_t 1135 (by decide +kernel) rfl
theorem w_1136 : Jvm.Cond.selects "WidowRoads" ({ cls := "WidowRoads", name := "rate", desc := "(II)I" } : Jvm.MethodName) ({ cls := "WidowRoads", name := "rate", desc := "(II)I" } : Jvm.MethodName) ∈ GW := GW_t 1136 (by decide +kernel) rfl
theorem w_1137 : Jvm.Cond.code ({ cls := "WidowRoads", name := "rate", desc := "(II)I" } : Jvm.MethodName) prog_1_method_63_code (4 : Nat) (Option.some Jvm.ClassFile.FieldType.int) ∈ GW := GW_t 1137 (by decide +kernel) rfl
theorem w_1138 : Jvm.Cond.methodLink "WidowRoadsLaw" (269 : Nat) ({ cls := "WidowRoads", name := "count", desc := "(I)I" } : Jvm.MethodName) ∈ GW := GW_t 1138 (by decide +kernel) rfl
theorem w_1139 : Jvm.Cond.instanceMethod ({ cls := "WidowRoads", name := "count", desc := "(I)I" } : Jvm.MethodName) ∈ GW := GW_t 1139 (by decide +kernel) rfl
theorem w_1140 : Jvm.Cond.selects "WidowRoads" ({ cls := "WidowRoads", name := "count", desc := "(I)I" } : Jvm.MethodName) ({ cls := "WidowRoads", name := "count", desc := "(I)I" } : Jvm.MethodName) ∈ GW := GW_t 1140 (by decide +kernel) rfl
theorem w_1141 : Jvm.Cond.code ({ cls := "WidowRoads", name := "count", desc := "(I)I" } : Jvm.MethodName) prog_1_method_64_code (2 : Nat) (Option.some Jvm.ClassFile.FieldType.int) ∈ GW := GW_t 1141 (by decide +kernel) rfl
theorem w_1144 : Jvm.Cond.instanceMethod ({ cls := "WidowRoads$Rows", name := "many", desc := "()I" } : Jvm.MethodName) ∈ GW := GW_t 1144 (by decide +kernel) rfl
theorem w_1145 : Jvm.Cond.code ({ cls := "WidowRoads$Rows", name := "many", desc := "()I" } : Jvm.MethodName) prog_7_method_3_code (3 : Nat) (Option.some Jvm.ClassFile.FieldType.int) ∈ GW := GW_t 1145 (by decide +kernel) rfl
theorem w_1147 : Jvm.Cond.methodLink "WidowRoadsLaw" (273 : Nat) ({ cls := "WidowRoads", name := "image", desc := "(I)I" } : Jvm.MethodName) ∈ GW := GW_t 1147 (by decide +kernel) rfl
theorem w_1148 : Jvm.Cond.instanceMethod ({ cls := "WidowRoads", name := "image", desc := "(I)I" } : Jvm.MethodName) ∈ GW := GW_t 1148 (by decide +kernel) rfl
theorem w_1149 : Jvm.Cond.selects "WidowRoads" ({ cls := "WidowRoads", name := "image", desc := "(I)I" } : Jvm.MethodName) ({ cls := "WidowRoads", name := "image", desc := "(I)I" } : Jvm.MethodName) ∈ GW := GW_t 1149 (by decide +kernel) rfl
theorem w_1150 : Jvm.Cond.code ({ cls := "WidowRoads", name := "image", desc := "(I)I" } : Jvm.MethodName) prog_1_method_65_code (2 : Nat) (Option.some Jvm.ClassFile.FieldType.int) ∈ GW := GW_t 1150 (by decide +kernel) rfl
theorem w_1151 : Jvm.Cond.methodLink "WidowRoadsLaw" (277 : Nat) ({ cls := "WidowRoads", name := "back", desc := "(I)I" } : Jvm.MethodName) ∈ GW := GW_t 1151 (by decide +kernel) rfl
theorem w_1152 : Jvm.Cond.instanceMethod ({ cls := "WidowRoads", name := "back", desc := "(I)I" } : Jvm.MethodName) ∈ GW := GW_t 1152 (by decide +kernel) rfl
theorem w_1153 : Jvm.Cond.selects "WidowRoads" ({ cls := "WidowRoads", name := "back", desc := "(I)I" } : Jvm.MethodName) ({ cls := "WidowRoads", name := "back", desc := "(I)I" } : Jvm.MethodName) ∈ GW := GW_t 1153 (by decide +kernel) rfl
theorem w_1154 : Jvm.Cond.code ({ cls := "WidowRoads", name := "back", desc := "(I)I" } : Jvm.MethodName) prog_1_method_66_code (2 : Nat) (Option.some Jvm.ClassFile.FieldType.int) ∈ GW := GW_t 1154 (by decide +kernel) rfl
theorem w_1155 : Jvm.Cond.methodLink "WidowRoadsLaw" (281 : Nat) ({ cls := "WidowRoads", name := "row", desc := "(III)I" } : Jvm.MethodName) ∈ GW := GW_t 1155 (by decide +kernel) rfl
theorem w_1156 : Jvm.Cond.instanceMethod ({ cls := "WidowRoads", name := "row", desc := "(III)I" } : Jvm.MethodName) ∈ GW := GW_t 1156 (by decide +kernel) rfl
theorem w_1157 : Jvm.Cond.selects "WidowRoads" ({ cls := "WidowRoads", name := "row", desc := "(III)I" } : Jvm.MethodName) ({ cls := "WidowRoads", name := "row", desc := "(III)I" } : Jvm.MethodName) ∈ GW := GW_t 1157 (by decide +kernel) rfl
theorem w_1158 : Jvm.Cond.code ({ cls := "WidowRoads", name := "row", desc := "(III)I" } : Jvm.MethodName) prog_1_method_67_code (4 : Nat) (Option.some Jvm.ClassFile.FieldType.int) ∈ GW := GW_t 1158 (by decide +kernel) rfl
theorem w_1161 : Jvm.Cond.instanceMethod ({ cls := "WidowRoads$Rows", name := "clear", desc := "(III)V" } : Jvm.MethodName) ∈ GW := GW_t 1161 (by decide +kernel) rfl
theorem w_1162 : Jvm.Cond.code ({ cls := "WidowRoads$Rows", name := "clear", desc := "(III)V" } : Jvm.MethodName) prog_7_method_4_code (5 : Nat) (Option.none : Option Jvm.ClassFile.FieldType) ∈ GW := GW_t 1162 (by decide +kernel) rfl
theorem w_1163 : Jvm.Cond.methodLink "WidowRoadsLaw" (287 : Nat) ({ cls := "WidowRoads", name := "write", desc := "(IIJ)I" } : Jvm.MethodName) ∈ GW := GW_t 1163 (by decide +kernel) rfl
theorem w_1164 : Jvm.Cond.instanceMethod ({ cls := "WidowRoads", name := "write", desc := "(IIJ)I" } : Jvm.MethodName) ∈ GW := GW_t 1164 (by decide +kernel) rfl
theorem w_1165 : Jvm.Cond.selects "WidowRoads" ({ cls := "WidowRoads", name := "write", desc := "(IIJ)I" } : Jvm.MethodName) ({ cls := "WidowRoads", name := "write", desc := "(IIJ)I" } : Jvm.MethodName) ∈ GW := GW_t 1165 (by decide +kernel) rfl
theorem w_1166 : Jvm.Cond.code ({ cls := "WidowRoads", name := "write", desc := "(IIJ)I" } : Jvm.MethodName) prog_1_method_68_code (5 : Nat) (Option.some Jvm.ClassFile.FieldType.int) ∈ GW := GW_t 1166 (by decide +kernel) rfl
theorem w_1174 : Jvm.Cond.methodLink "WidowRoadsLaw" (292 : Nat) ({ cls := "WidowRoads", name := "paste", desc := "(IIIII)I" } : Jvm.MethodName) ∈ GW := GW_t 1174 (by decide +kernel) rfl
theorem w_1175 : Jvm.Cond.instanceMethod ({ cls := "WidowRoads", name := "paste", desc := "(IIIII)I" } : Jvm.MethodName) ∈ GW := GW_t 1175 (by decide +kernel) rfl
theorem w_1176 : Jvm.Cond.selects "WidowRoads" ({ cls := "WidowRoads", name := "paste", desc := "(IIIII)I" } : Jvm.MethodName) ({ cls := "WidowRoads", name := "paste", desc := "(IIIII)I" } : Jvm.MethodName) ∈ GW := GW_t 1176 (by decide +kernel) rfl
theorem w_1177 : Jvm.Cond.code ({ cls := "WidowRoads", name := "paste", desc := "(IIIII)I" } : Jvm.MethodName) prog_1_method_69_code (6 : Nat) (Option.some Jvm.ClassFile.FieldType.int) ∈ GW := GW_t 1177 (by decide +kernel) rfl
theorem w_1187 : Jvm.Cond.classLink "WidowRoadsLaw" (10 : Nat) "WidowRoadsModel" ∈ GW := GW_t 1187 (by decide +kernel) rfl
theorem w_1188 : Jvm.Cond.instantiable "WidowRoadsModel" (46 : Nat) ∈ GW := GW_t 1188 (by decide +kernel) rfl
theorem w_1189 : Jvm.Cond.methodLink "WidowRoadsLaw" (12 : Nat) ({ cls := "WidowRoadsModel", name := "<init>", desc := "()V" } : Jvm.MethodName) ∈ GW := GW_t 1189 (by decide +kernel) rfl
theorem w_1190 : Jvm.Cond.instanceMethod ({ cls := "WidowRoadsModel", name := "<init>", desc := "()V" } : Jvm.MethodName) ∈ GW := GW_t 1190 (by decide +kernel) rfl
theorem w_1191 : Jvm.Cond.code ({ cls := "WidowRoadsModel", name := "<init>", desc := "()V" } : Jvm.MethodName) prog_12_method_1_code (1 : Nat) (Option.none : Option Jvm.ClassFile.FieldType) ∈ GW := GW_t 1191 (by decide +kernel) rfl
theorem w_1192 : Jvm.Cond.methodLink "WidowRoadsModel" (3 : Nat) ({ cls := "java/lang/Object", name := "<init>", desc := "()V" } : Jvm.MethodName) ∈ GW := GW_t 1192 (by decide +kernel) rfl
theorem w_1193 : Jvm.Cond.fieldLink "WidowRoadsModel" (9 : Nat) "WidowRoadsModel" "world" "[I" ∈ GW := GW_t 1193 (by decide +kernel) rfl
theorem w_1194 : Jvm.Cond.fieldLink "WidowRoadsModel" (13 : Nat) "WidowRoadsModel" "images" "[I" ∈ GW := GW_t 1194 (by decide +kernel) rfl
theorem w_1195 : Jvm.Cond.fieldLink "WidowRoadsModel" (16 : Nat) "WidowRoadsModel" "hasImage" "[Z" ∈ GW := GW_t 1195 (by decide +kernel) rfl
theorem w_1196 : Jvm.Cond.fieldLink "WidowRoadsModel" (20 : Nat) "WidowRoadsModel" "tape" "[B" ∈ GW := GW_t 1196 (by decide +kernel) rfl
theorem w_1197 : Jvm.Cond.fieldLink "WidowRoadsModel" (123 : Nat) "WidowRoadsModel" "taped" "I" ∈ GW := GW_t 1197 (by decide +kernel) rfl
theorem w_1198 : Jvm.Cond.fieldLink "WidowRoadsModel" (24 : Nat) "WidowRoadsModel" "five" "[I" ∈ GW := GW_t 1198 (by decide +kernel) rfl
theorem w_1199 : Jvm.Cond.fieldLink "WidowRoadsModel" (126 : Nat) "WidowRoadsModel" "size" "I" ∈ GW := GW_t 1199 (by decide +kernel) rfl
theorem w_1200 : Jvm.Cond.fieldLink "WidowRoadsModel" (129 : Nat) "WidowRoadsModel" "at" "I" ∈ GW := GW_t 1200 (by decide +kernel) rfl
theorem w_1201 : Jvm.Cond.fieldLink "WidowRoadsModel" (136 : Nat) "WidowRoadsModel" "from" "I" ∈ GW := GW_t 1201 (by decide +kernel) rfl
theorem w_1202 : Jvm.Cond.fieldLink "WidowRoadsModel" (139 : Nat) "WidowRoadsModel" "token" "I" ∈ GW := GW_t 1202 (by decide +kernel) rfl
theorem w_1204 : Jvm.Cond.fieldLink "WidowRoadsModel" (160 : Nat) "WidowRoadsModel" "faultKind" "I" ∈ GW := GW_t 1204 (by decide +kernel) rfl
theorem w_1205 : Jvm.Cond.fieldLink "WidowRoadsModel" (27 : Nat) "WidowRoadsModel" "faultPlace" "I" ∈ GW := GW_t 1205 (by decide +kernel) rfl
theorem w_1206 : Jvm.Cond.fieldLink "WidowRoadsModel" (31 : Nat) "WidowRoadsModel" "fresh" "[I" ∈ GW := GW_t 1206 (by decide +kernel) rfl
theorem w_1207 : Jvm.Cond.fieldLink "WidowRoadsModel" (34 : Nat) "WidowRoadsModel" "isCreek" "[Z" ∈ GW := GW_t 1207 (by decide +kernel) rfl
theorem w_1208 : Jvm.Cond.fieldLink "WidowRoadsModel" (37 : Nat) "WidowRoadsModel" "facesNow" "[I" ∈ GW := GW_t 1208 (by decide +kernel) rfl
theorem w_1209 : Jvm.Cond.fieldLink "WidowRoadsModel" (270 : Nat) "WidowRoadsModel" "lawNow" "I" ∈ GW := GW_t 1209 (by decide +kernel) rfl
theorem w_1210 : Jvm.Cond.fieldLink "WidowRoadsModel" (276 : Nat) "WidowRoadsModel" "walkSet" "I" ∈ GW := GW_t 1210 (by decide +kernel) rfl
theorem w_1211 : Jvm.Cond.fieldLink "WidowRoadsModel" (279 : Nat) "WidowRoadsModel" "oneWidow" "I" ∈ GW := GW_t 1211 (by decide +kernel) rfl
theorem w_1213 : Jvm.Cond.fieldLink "WidowRoadsModel" (40 : Nat) "WidowRoadsModel" "isRoad" "[Z" ∈ GW := GW_t 1213 (by decide +kernel) rfl
theorem w_1214 : Jvm.Cond.fieldLink "WidowRoadsModel" (43 : Nat) "WidowRoadsModel" "wasRoad" "[Z" ∈ GW := GW_t 1214 (by decide +kernel) rfl
theorem w_1215 : Jvm.Cond.fieldLink "WidowRoadsModel" (46 : Nat) "WidowRoadsModel" "wasIn" "[Z" ∈ GW := GW_t 1215 (by decide +kernel) rfl
theorem w_1216 : Jvm.Cond.fieldLink "WidowRoadsModel" (49 : Nat) "WidowRoadsModel" "pegNow" "[I" ∈ GW := GW_t 1216 (by decide +kernel) rfl
theorem w_1217 : Jvm.Cond.fieldLink "WidowRoadsModel" (52 : Nat) "WidowRoadsModel" "houseNow" "[I" ∈ GW := GW_t 1217 (by decide +kernel) rfl
theorem w_1218 : Jvm.Cond.fieldLink "WidowRoadsModel" (55 : Nat) "WidowRoadsModel" "pathBy" "[I" ∈ GW := GW_t 1218 (by decide +kernel) rfl
theorem w_1219 : Jvm.Cond.fieldLink "WidowRoadsModel" (58 : Nat) "WidowRoadsModel" "stepsBy" "[I" ∈ GW := GW_t 1219 (by decide +kernel) rfl
theorem w_1220 : Jvm.Cond.fieldLink "WidowRoadsModel" (61 : Nat) "WidowRoadsModel" "movesBy" "[I" ∈ GW := GW_t 1220 (by decide +kernel) rfl
theorem w_1221 : Jvm.Cond.fieldLink "WidowRoadsModel" (64 : Nat) "WidowRoadsModel" "movedBy" "[I" ∈ GW := GW_t 1221 (by decide +kernel) rfl
theorem w_1222 : Jvm.Cond.fieldLink "WidowRoadsModel" (67 : Nat) "WidowRoadsModel" "roadAt" "[Z" ∈ GW := GW_t 1222 (by decide +kernel) rfl
theorem w_1223 : Jvm.Cond.fieldLink "WidowRoadsModel" (70 : Nat) "WidowRoadsModel" "pegAt" "[I" ∈ GW := GW_t 1223 (by decide +kernel) rfl
theorem w_1224 : Jvm.Cond.fieldLink "WidowRoadsModel" (73 : Nat) "WidowRoadsModel" "houseAt" "[I" ∈ GW := GW_t 1224 (by decide +kernel) rfl
theorem w_1225 : Jvm.Cond.fieldLink "WidowRoadsModel" (76 : Nat) "WidowRoadsModel" "farNow" "[I" ∈ GW := GW_t 1225 (by decide +kernel) rfl
theorem w_1226 : Jvm.Cond.fieldLink "WidowRoadsModel" (79 : Nat) "WidowRoadsModel" "seen" "[Z" ∈ GW := GW_t 1226 (by decide +kernel) rfl
theorem w_1227 : Jvm.Cond.fieldLink "WidowRoadsModel" (82 : Nat) "WidowRoadsModel" "cellBy" "[I" ∈ GW := GW_t 1227 (by decide +kernel) rfl
theorem w_1229 : Jvm.Cond.fieldLink "WidowRoadsModel" (85 : Nat) "WidowRoadsModel" "worthBy" "[I" ∈ GW := GW_t 1229 (by decide +kernel) rfl
theorem w_1230 : Jvm.Cond.fieldLink "WidowRoadsModel" (454 : Nat) "WidowRoadsModel" "mayWalk" "I" ∈ GW := GW_t 1230 (by decide +kernel) rfl
theorem w_1234 : Jvm.Cond.fieldLink "WidowRoadsModel" (88 : Nat) "WidowRoadsModel" "many" "[I" ∈ GW := GW_t 1234 (by decide +kernel) rfl
theorem w_1235 : Jvm.Cond.fieldLink "WidowRoadsModel" (91 : Nat) "WidowRoadsModel" "width" "[I" ∈ GW := GW_t 1235 (by decide +kernel) rfl
theorem w_1236 : Jvm.Cond.fieldLink "WidowRoadsModel" (94 : Nat) "WidowRoadsModel" "numbers" "[J" ∈ GW := GW_t 1236 (by decide +kernel) rfl
theorem w_1237 : Jvm.Cond.fieldLink "WidowRoadsModel" (98 : Nat) "WidowRoadsModel" "moving" "[J" ∈ GW := GW_t 1237 (by decide +kernel) rfl
theorem w_1331 : Jvm.Cond.methodLink "WidowRoadsLaw" (276 : Nat) ({ cls := "WidowRoadsModel", name := "image", desc := "(I)I" } : Jvm.MethodName) ∈ GW := GW_t 1331 (by decide +kernel) rfl
theorem w_1332 : Jvm.Cond.instanceMethod ({ cls := "WidowRoadsModel", name := "image", desc := "(I)I" } : Jvm.MethodName) ∈ GW := GW_t 1332 (by decide +kernel) rfl
theorem w_1333 : Jvm.Cond.selects "WidowRoadsModel" ({ cls := "WidowRoadsModel", name := "image", desc := "(I)I" } : Jvm.MethodName) ({ cls := "WidowRoadsModel", name := "image", desc := "(I)I" } : Jvm.MethodName) ∈ GW := GW_t 1333 (by decide +kernel) rfl
theorem w_1334 : Jvm.Cond.code ({ cls := "WidowRoadsModel", name := "image", desc := "(I)I" } : Jvm.MethodName) prog_12_method_6_code (3 : Nat) (Option.some Jvm.ClassFile.FieldType.int) ∈ GW := GW_t 1334 (by decide +kernel) rfl
theorem w_1335 : Jvm.Cond.constantLong "WidowRoadsModel" (104 : Nat) (2 : Int64) ∈ GW := GW_t 1335 (by decide +kernel) rfl
theorem w_1336 : Jvm.Cond.methodLink "WidowRoadsModel" (106 : Nat) ({ cls := "WidowRoadsModel", name := "in", desc := "(JJJ)Z" } : Jvm.MethodName) ∈ GW := GW_t 1336 (by decide +kernel) rfl
theorem w_1337 : Jvm.Cond.static ({ cls := "WidowRoadsModel", name := "in", desc := "(JJJ)Z" } : Jvm.MethodName) ∈ GW := GW_t 1337 (by decide +kernel) rfl
theorem w_1338 : Jvm.Cond.code ({ cls := "WidowRoadsModel", name := "in", desc := "(JJJ)Z" } : Jvm.MethodName) prog_12_method_3_code (6 : Nat) (Option.some Jvm.ClassFile.FieldType.boolean) ∈ GW := GW_t 1338 (by decide +kernel) rfl
theorem w_1339 : Jvm.Cond.methodLink "WidowRoadsLaw" (280 : Nat) ({ cls := "WidowRoadsModel", name := "back", desc := "(I)I" } : Jvm.MethodName) ∈ GW := GW_t 1339 (by decide +kernel) rfl
theorem w_1340 : Jvm.Cond.instanceMethod ({ cls := "WidowRoadsModel", name := "back", desc := "(I)I" } : Jvm.MethodName) ∈ GW := GW_t 1340 (by decide +kernel) rfl
theorem w_1341 : Jvm.Cond.selects "WidowRoadsModel" ({ cls := "WidowRoadsModel", name := "back", desc := "(I)I" } : Jvm.MethodName) ({ cls := "WidowRoadsModel", name := "back", desc := "(I)I" } : Jvm.MethodName) ∈ GW := GW_t 1341 (by decide +kernel) rfl
theorem w_1342 : Jvm.Cond.code ({ cls := "WidowRoadsModel", name := "back", desc := "(I)I" } : Jvm.MethodName) prog_12_method_7_code (3 : Nat) (Option.some Jvm.ClassFile.FieldType.int) ∈ GW := GW_t 1342 (by decide +kernel) rfl
theorem w_1343 : Jvm.Cond.methodLink "WidowRoadsLaw" (17 : Nat) ({ cls := "WidowRoadsModel", name := "feed", desc := "(IIIII)I" } : Jvm.MethodName) ∈ GW := GW_t 1343 (by decide +kernel) rfl
theorem w_1344 : Jvm.Cond.instanceMethod ({ cls := "WidowRoadsModel", name := "feed", desc := "(IIIII)I" } : Jvm.MethodName) ∈ GW := GW_t 1344 (by decide +kernel) rfl
theorem w_1345 : Jvm.Cond.selects "WidowRoadsModel" ({ cls := "WidowRoadsModel", name := "feed", desc := "(IIIII)I" } : Jvm.MethodName) ({ cls := "WidowRoadsModel", name := "feed", desc := "(IIIII)I" } : Jvm.MethodName) ∈ GW := GW_t 1345 (by decide +kernel) rfl
theorem w_1346 : Jvm.Cond.code ({ cls := "WidowRoadsModel", name := "feed", desc := "(IIIII)I" } : Jvm.MethodName) prog_12_method_17_code (7 : Nat) (Option.some Jvm.ClassFile.FieldType.int) ∈ GW := GW_t 1346 (by decide +kernel) rfl
theorem w_1347 : Jvm.Cond.methodLink "WidowRoadsLaw" (22 : Nat) ({ cls := "WidowRoadsModel", name := "end", desc := "(I)I" } : Jvm.MethodName) ∈ GW := GW_t 1347 (by decide +kernel) rfl
theorem w_1348 : Jvm.Cond.instanceMethod ({ cls := "WidowRoadsModel", name := "end", desc := "(I)I" } : Jvm.MethodName) ∈ GW := GW_t 1348 (by decide +kernel) rfl
theorem w_1349 : Jvm.Cond.selects "WidowRoadsModel" ({ cls := "WidowRoadsModel", name := "end", desc := "(I)I" } : Jvm.MethodName) ({ cls := "WidowRoadsModel", name := "end", desc := "(I)I" } : Jvm.MethodName) ∈ GW := GW_t 1349 (by decide +kernel) rfl
theorem w_1350 : Jvm.Cond.code ({ cls := "WidowRoadsModel", name := "end", desc := "(I)I" } : Jvm.MethodName) prog_12_method_18_code (2 : Nat) (Option.some Jvm.ClassFile.FieldType.int) ∈ GW := GW_t 1350 (by decide +kernel) rfl
theorem w_1351 : Jvm.Cond.methodLink "WidowRoadsLaw" (31 : Nat) ({ cls := "WidowRoadsModel", name := "fault", desc := "(I)I" } : Jvm.MethodName) ∈ GW := GW_t 1351 (by decide +kernel) rfl
theorem w_1352 : Jvm.Cond.instanceMethod ({ cls := "WidowRoadsModel", name := "fault", desc := "(I)I" } : Jvm.MethodName) ∈ GW := GW_t 1352 (by decide +kernel) rfl
theorem w_1353 : Jvm.Cond.selects "WidowRoadsModel" ({ cls := "WidowRoadsModel", name := "fault", desc := "(I)I" } : Jvm.MethodName) ({ cls := "WidowRoadsModel", name := "fault", desc := "(I)I" } : Jvm.MethodName) ∈ GW := GW_t 1353 (by decide +kernel) rfl
theorem w_1354 : Jvm.Cond.code ({ cls := "WidowRoadsModel", name := "fault", desc := "(I)I" } : Jvm.MethodName) prog_12_method_28_code (2 : Nat) (Option.some Jvm.ClassFile.FieldType.int) ∈ GW := GW_t 1354 (by decide +kernel) rfl
theorem w_1355 : Jvm.Cond.methodLink "WidowRoadsLaw" (27 : Nat) ({ cls := "WidowRoadsModel", name := "colony", desc := "()I" } : Jvm.MethodName) ∈ GW := GW_t 1355 (by decide +kernel) rfl
theorem w_1356 : Jvm.Cond.instanceMethod ({ cls := "WidowRoadsModel", name := "colony", desc := "()I" } : Jvm.MethodName) ∈ GW := GW_t 1356 (by decide +kernel) rfl
theorem w_1357 : Jvm.Cond.selects "WidowRoadsModel" ({ cls := "WidowRoadsModel", name := "colony", desc := "()I" } : Jvm.MethodName) ({ cls := "WidowRoadsModel", name := "colony", desc := "()I" } : Jvm.MethodName) ∈ GW := GW_t 1357 (by decide +kernel) rfl
theorem w_1358 : Jvm.Cond.code ({ cls := "WidowRoadsModel", name := "colony", desc := "()I" } : Jvm.MethodName) prog_12_method_38_code (2 : Nat) (Option.some Jvm.ClassFile.FieldType.int) ∈ GW := GW_t 1358 (by decide +kernel) rfl
theorem w_1359 : Jvm.Cond.methodLink "WidowRoadsModel" (179 : Nat) ({ cls := "WidowRoadsModel", name := "advance", desc := "()V" } : Jvm.MethodName) ∈ GW := GW_t 1359 (by decide +kernel) rfl
theorem w_1361 : Jvm.Cond.instanceMethod ({ cls := "WidowRoadsModel", name := "advance", desc := "()V" } : Jvm.MethodName) ∈ GW := GW_t 1361 (by decide +kernel) rfl
theorem w_1362 : Jvm.Cond.code ({ cls := "WidowRoadsModel", name := "advance", desc := "()V" } : Jvm.MethodName) prog_12_method_20_code (2 : Nat) (Option.none : Option Jvm.ClassFile.FieldType) ∈ GW := GW_t 1362 (by decide +kernel) rfl
theorem w_1363 : Jvm.Cond.methodLink "WidowRoadsModel" (132 : Nat) ({ cls := "WidowRoadsModel", name := "see", desc := "(I)I" } : Jvm.MethodName) ∈ GW := GW_t 1363 (by decide +kernel) rfl
theorem w_1365 : Jvm.Cond.instanceMethod ({ cls := "WidowRoadsModel", name := "see", desc := "(I)I" } : Jvm.MethodName) ∈ GW := GW_t 1365 (by decide +kernel) rfl
theorem w_1366 : Jvm.Cond.code ({ cls := "WidowRoadsModel", name := "see", desc := "(I)I" } : Jvm.MethodName) prog_12_method_19_code (2 : Nat) (Option.some Jvm.ClassFile.FieldType.int) ∈ GW := GW_t 1366 (by decide +kernel) rfl
theorem w_1373 : Jvm.Cond.methodLink "WidowRoadsModel" (163 : Nat) ({ cls := "WidowRoadsModel", name := "good", desc := "()Z" } : Jvm.MethodName) ∈ GW := GW_t 1373 (by decide +kernel) rfl
theorem w_1375 : Jvm.Cond.instanceMethod ({ cls := "WidowRoadsModel", name := "good", desc := "()Z" } : Jvm.MethodName) ∈ GW := GW_t 1375 (by decide +kernel) rfl
theorem w_1376 : Jvm.Cond.code ({ cls := "WidowRoadsModel", name := "good", desc := "()Z" } : Jvm.MethodName) prog_12_method_21_code (1 : Nat) (Option.some Jvm.ClassFile.FieldType.boolean) ∈ GW := GW_t 1376 (by decide +kernel) rfl
theorem w_1456 : Jvm.Cond.methodLink "WidowRoadsLaw" (40 : Nat) ({ cls := "WidowRoadsModel", name := "widow", desc := "(II)I" } : Jvm.MethodName) ∈ GW := GW_t 1456 (by decide +kernel) rfl
theorem w_1457 : Jvm.Cond.instanceMethod ({ cls := "WidowRoadsModel", name := "widow", desc := "(II)I" } : Jvm.MethodName) ∈ GW := GW_t 1457 (by decide +kernel) rfl
theorem w_1458 : Jvm.Cond.selects "WidowRoadsModel" ({ cls := "WidowRoadsModel", name := "widow", desc := "(II)I" } : Jvm.MethodName) ({ cls := "WidowRoadsModel", name := "widow", desc := "(II)I" } : Jvm.MethodName) ∈ GW := GW_t 1458 (by decide +kernel) rfl
theorem w_1459 : Jvm.Cond.code ({ cls := "WidowRoadsModel", name := "widow", desc := "(II)I" } : Jvm.MethodName) prog_12_method_39_code (3 : Nat) (Option.some Jvm.ClassFile.FieldType.int) ∈ GW := GW_t 1459 (by decide +kernel) rfl
theorem w_1460 : Jvm.Cond.methodLink "WidowRoadsModel" (261 : Nat) ({ cls := "WidowRoadsModel", name := "isWidow", desc := "(J)Z" } : Jvm.MethodName) ∈ GW := GW_t 1460 (by decide +kernel) rfl
theorem w_1462 : Jvm.Cond.instanceMethod ({ cls := "WidowRoadsModel", name := "isWidow", desc := "(J)Z" } : Jvm.MethodName) ∈ GW := GW_t 1462 (by decide +kernel) rfl
theorem w_1463 : Jvm.Cond.code ({ cls := "WidowRoadsModel", name := "isWidow", desc := "(J)Z" } : Jvm.MethodName) prog_12_method_15_code (3 : Nat) (Option.some Jvm.ClassFile.FieldType.boolean) ∈ GW := GW_t 1463 (by decide +kernel) rfl
theorem w_1464 : Jvm.Cond.methodLink "WidowRoadsModel" (110 : Nat) ({ cls := "WidowRoadsModel", name := "widows", desc := "()I" } : Jvm.MethodName) ∈ GW := GW_t 1464 (by decide +kernel) rfl
theorem w_1466 : Jvm.Cond.instanceMethod ({ cls := "WidowRoadsModel", name := "widows", desc := "()I" } : Jvm.MethodName) ∈ GW := GW_t 1466 (by decide +kernel) rfl
theorem w_1467 : Jvm.Cond.code ({ cls := "WidowRoadsModel", name := "widows", desc := "()I" } : Jvm.MethodName) prog_12_method_10_code (1 : Nat) (Option.some Jvm.ClassFile.FieldType.int) ∈ GW := GW_t 1467 (by decide +kernel) rfl
theorem w_1469 : Jvm.Cond.methodLink "WidowRoadsModel" (267 : Nat) ({ cls := "WidowRoadsModel", name := "widowOf", desc := "(II)I" } : Jvm.MethodName) ∈ GW := GW_t 1469 (by decide +kernel) rfl
theorem w_1471 : Jvm.Cond.instanceMethod ({ cls := "WidowRoadsModel", name := "widowOf", desc := "(II)I" } : Jvm.MethodName) ∈ GW := GW_t 1471 (by decide +kernel) rfl
theorem w_1472 : Jvm.Cond.code ({ cls := "WidowRoadsModel", name := "widowOf", desc := "(II)I" } : Jvm.MethodName) prog_12_method_16_code (3 : Nat) (Option.some Jvm.ClassFile.FieldType.int) ∈ GW := GW_t 1472 (by decide +kernel) rfl
theorem w_1473 : Jvm.Cond.methodLink "WidowRoadsLaw" (44 : Nat) ({ cls := "WidowRoadsModel", name := "grief", desc := "(II)I" } : Jvm.MethodName) ∈ GW := GW_t 1473 (by decide +kernel) rfl
theorem w_1474 : Jvm.Cond.instanceMethod ({ cls := "WidowRoadsModel", name := "grief", desc := "(II)I" } : Jvm.MethodName) ∈ GW := GW_t 1474 (by decide +kernel) rfl
theorem w_1475 : Jvm.Cond.selects "WidowRoadsModel" ({ cls := "WidowRoadsModel", name := "grief", desc := "(II)I" } : Jvm.MethodName) ({ cls := "WidowRoadsModel", name := "grief", desc := "(II)I" } : Jvm.MethodName) ∈ GW := GW_t 1475 (by decide +kernel) rfl
theorem w_1476 : Jvm.Cond.code ({ cls := "WidowRoadsModel", name := "grief", desc := "(II)I" } : Jvm.MethodName) prog_12_method_40_code (3 : Nat) (Option.some Jvm.ClassFile.FieldType.int) ∈ GW := GW_t 1476 (by decide +kernel) rfl
theorem w_1477 : Jvm.Cond.methodLink "WidowRoadsLaw" (35 : Nat) ({ cls := "WidowRoadsModel", name := "creek", desc := "(I)I" } : Jvm.MethodName) ∈ GW := GW_t 1477 (by decide +kernel) rfl
theorem w_1478 : Jvm.Cond.instanceMethod ({ cls := "WidowRoadsModel", name := "creek", desc := "(I)I" } : Jvm.MethodName) ∈ GW := GW_t 1478 (by decide +kernel) rfl
theorem w_1479 : Jvm.Cond.selects "WidowRoadsModel" ({ cls := "WidowRoadsModel", name := "creek", desc := "(I)I" } : Jvm.MethodName) ({ cls := "WidowRoadsModel", name := "creek", desc := "(I)I" } : Jvm.MethodName) ∈ GW := GW_t 1479 (by decide +kernel) rfl
theorem w_1480 : Jvm.Cond.code ({ cls := "WidowRoadsModel", name := "creek", desc := "(I)I" } : Jvm.MethodName) prog_12_method_65_code (2 : Nat) (Option.some Jvm.ClassFile.FieldType.int) ∈ GW := GW_t 1480 (by decide +kernel) rfl
theorem w_1481 : Jvm.Cond.methodLink "WidowRoadsModel" (353 : Nat) ({ cls := "WidowRoadsModel", name := "asksCell", desc := "(I)Z" } : Jvm.MethodName) ∈ GW := GW_t 1481 (by decide +kernel) rfl
theorem w_1483 : Jvm.Cond.instanceMethod ({ cls := "WidowRoadsModel", name := "asksCell", desc := "(I)Z" } : Jvm.MethodName) ∈ GW := GW_t 1483 (by decide +kernel) rfl
theorem w_1484 : Jvm.Cond.code ({ cls := "WidowRoadsModel", name := "asksCell", desc := "(I)Z" } : Jvm.MethodName) prog_12_method_57_code (2 : Nat) (Option.some Jvm.ClassFile.FieldType.boolean) ∈ GW := GW_t 1484 (by decide +kernel) rfl
theorem w_1485 : Jvm.Cond.methodLink "WidowRoadsModel" (335 : Nat) ({ cls := "WidowRoadsModel", name := "asksColony", desc := "()Z" } : Jvm.MethodName) ∈ GW := GW_t 1485 (by decide +kernel) rfl
theorem w_1487 : Jvm.Cond.instanceMethod ({ cls := "WidowRoadsModel", name := "asksColony", desc := "()Z" } : Jvm.MethodName) ∈ GW := GW_t 1487 (by decide +kernel) rfl
theorem w_1488 : Jvm.Cond.code ({ cls := "WidowRoadsModel", name := "asksColony", desc := "()Z" } : Jvm.MethodName) prog_12_method_54_code (1 : Nat) (Option.some Jvm.ClassFile.FieldType.boolean) ∈ GW := GW_t 1488 (by decide +kernel) rfl
theorem w_1489 : Jvm.Cond.methodLink "WidowRoadsModel" (329 : Nat) ({ cls := "WidowRoadsModel", name := "asItIs", desc := "()V" } : Jvm.MethodName) ∈ GW := GW_t 1489 (by decide +kernel) rfl
theorem w_1491 : Jvm.Cond.instanceMethod ({ cls := "WidowRoadsModel", name := "asItIs", desc := "()V" } : Jvm.MethodName) ∈ GW := GW_t 1491 (by decide +kernel) rfl
theorem w_1492 : Jvm.Cond.code ({ cls := "WidowRoadsModel", name := "asItIs", desc := "()V" } : Jvm.MethodName) prog_12_method_41_code (3 : Nat) (Option.none : Option Jvm.ClassFile.FieldType) ∈ GW := GW_t 1492 (by decide +kernel) rfl
theorem w_1493 : Jvm.Cond.methodLink "WidowRoadsModel" (273 : Nat) ({ cls := "WidowRoadsModel", name := "allWidows", desc := "()I" } : Jvm.MethodName) ∈ GW := GW_t 1493 (by decide +kernel) rfl
theorem w_1495 : Jvm.Cond.instanceMethod ({ cls := "WidowRoadsModel", name := "allWidows", desc := "()I" } : Jvm.MethodName) ∈ GW := GW_t 1495 (by decide +kernel) rfl
theorem w_1496 : Jvm.Cond.code ({ cls := "WidowRoadsModel", name := "allWidows", desc := "()I" } : Jvm.MethodName) prog_12_method_12_code (1 : Nat) (Option.some Jvm.ClassFile.FieldType.int) ∈ GW := GW_t 1496 (by decide +kernel) rfl
theorem w_1497 : Jvm.Cond.methodLink "WidowRoadsModel" (332 : Nat) ({ cls := "WidowRoadsModel", name := "goAll", desc := "()V" } : Jvm.MethodName) ∈ GW := GW_t 1497 (by decide +kernel) rfl
theorem w_1499 : Jvm.Cond.instanceMethod ({ cls := "WidowRoadsModel", name := "goAll", desc := "()V" } : Jvm.MethodName) ∈ GW := GW_t 1499 (by decide +kernel) rfl
theorem w_1500 : Jvm.Cond.code ({ cls := "WidowRoadsModel", name := "goAll", desc := "()V" } : Jvm.MethodName) prog_12_method_53_code (3 : Nat) (Option.none : Option Jvm.ClassFile.FieldType) ∈ GW := GW_t 1500 (by decide +kernel) rfl
theorem w_1501 : Jvm.Cond.methodLink "WidowRoadsModel" (118 : Nat) ({ cls := "WidowRoadsModel", name := "years", desc := "()I" } : Jvm.MethodName) ∈ GW := GW_t 1501 (by decide +kernel) rfl
theorem w_1503 : Jvm.Cond.instanceMethod ({ cls := "WidowRoadsModel", name := "years", desc := "()I" } : Jvm.MethodName) ∈ GW := GW_t 1503 (by decide +kernel) rfl
theorem w_1504 : Jvm.Cond.code ({ cls := "WidowRoadsModel", name := "years", desc := "()I" } : Jvm.MethodName) prog_12_method_9_code (1 : Nat) (Option.some Jvm.ClassFile.FieldType.int) ∈ GW := GW_t 1504 (by decide +kernel) rfl
theorem w_1505 : Jvm.Cond.methodLink "WidowRoadsModel" (320 : Nat) ({ cls := "WidowRoadsModel", name := "keepYear", desc := "(I)V" } : Jvm.MethodName) ∈ GW := GW_t 1505 (by decide +kernel) rfl
theorem w_1507 : Jvm.Cond.instanceMethod ({ cls := "WidowRoadsModel", name := "keepYear", desc := "(I)V" } : Jvm.MethodName) ∈ GW := GW_t 1507 (by decide +kernel) rfl
theorem w_1508 : Jvm.Cond.code ({ cls := "WidowRoadsModel", name := "keepYear", desc := "(I)V" } : Jvm.MethodName) prog_12_method_52_code (3 : Nat) (Option.none : Option Jvm.ClassFile.FieldType) ∈ GW := GW_t 1508 (by decide +kernel) rfl
theorem w_1542 : Jvm.Cond.methodLink "WidowRoadsModel" (307 : Nat) ({ cls := "WidowRoadsModel", name := "houses", desc := "()I" } : Jvm.MethodName) ∈ GW := GW_t 1542 (by decide +kernel) rfl
theorem w_1544 : Jvm.Cond.instanceMethod ({ cls := "WidowRoadsModel", name := "houses", desc := "()I" } : Jvm.MethodName) ∈ GW := GW_t 1544 (by decide +kernel) rfl
theorem w_1545 : Jvm.Cond.code ({ cls := "WidowRoadsModel", name := "houses", desc := "()I" } : Jvm.MethodName) prog_12_method_11_code (1 : Nat) (Option.some Jvm.ClassFile.FieldType.int) ∈ GW := GW_t 1545 (by decide +kernel) rfl
theorem w_1550 : Jvm.Cond.methodLink "WidowRoadsModel" (310 : Nat) ({ cls := "WidowRoadsModel", name := "isCell", desc := "(J)Z" } : Jvm.MethodName) ∈ GW := GW_t 1550 (by decide +kernel) rfl
theorem w_1552 : Jvm.Cond.instanceMethod ({ cls := "WidowRoadsModel", name := "isCell", desc := "(J)Z" } : Jvm.MethodName) ∈ GW := GW_t 1552 (by decide +kernel) rfl
theorem w_1553 : Jvm.Cond.code ({ cls := "WidowRoadsModel", name := "isCell", desc := "(J)Z" } : Jvm.MethodName) prog_12_method_14_code (3 : Nat) (Option.some Jvm.ClassFile.FieldType.boolean) ∈ GW := GW_t 1553 (by decide +kernel) rfl
theorem w_1554 : Jvm.Cond.methodLink "WidowRoadsModel" (114 : Nat) ({ cls := "WidowRoadsModel", name := "isColony", desc := "()Z" } : Jvm.MethodName) ∈ GW := GW_t 1554 (by decide +kernel) rfl
theorem w_1556 : Jvm.Cond.instanceMethod ({ cls := "WidowRoadsModel", name := "isColony", desc := "()Z" } : Jvm.MethodName) ∈ GW := GW_t 1556 (by decide +kernel) rfl
theorem w_1557 : Jvm.Cond.code ({ cls := "WidowRoadsModel", name := "isColony", desc := "()Z" } : Jvm.MethodName) prog_12_method_8_code (1 : Nat) (Option.some Jvm.ClassFile.FieldType.boolean) ∈ GW := GW_t 1557 (by decide +kernel) rfl
theorem w_1563 : Jvm.Cond.methodLink "WidowRoadsLaw" (48 : Nat) ({ cls := "WidowRoadsModel", name := "at", desc := "(II)I" } : Jvm.MethodName) ∈ GW := GW_t 1563 (by decide +kernel) rfl
theorem w_1564 : Jvm.Cond.instanceMethod ({ cls := "WidowRoadsModel", name := "at", desc := "(II)I" } : Jvm.MethodName) ∈ GW := GW_t 1564 (by decide +kernel) rfl
theorem w_1565 : Jvm.Cond.selects "WidowRoadsModel" ({ cls := "WidowRoadsModel", name := "at", desc := "(II)I" } : Jvm.MethodName) ({ cls := "WidowRoadsModel", name := "at", desc := "(II)I" } : Jvm.MethodName) ∈ GW := GW_t 1565 (by decide +kernel) rfl
theorem w_1566 : Jvm.Cond.code ({ cls := "WidowRoadsModel", name := "at", desc := "(II)I" } : Jvm.MethodName) prog_12_method_66_code (3 : Nat) (Option.some Jvm.ClassFile.FieldType.int) ∈ GW := GW_t 1566 (by decide +kernel) rfl
theorem w_1567 : Jvm.Cond.methodLink "WidowRoadsModel" (356 : Nat) ({ cls := "WidowRoadsModel", name := "asksWidow", desc := "(I)Z" } : Jvm.MethodName) ∈ GW := GW_t 1567 (by decide +kernel) rfl
theorem w_1569 : Jvm.Cond.instanceMethod ({ cls := "WidowRoadsModel", name := "asksWidow", desc := "(I)Z" } : Jvm.MethodName) ∈ GW := GW_t 1569 (by decide +kernel) rfl
theorem w_1570 : Jvm.Cond.code ({ cls := "WidowRoadsModel", name := "asksWidow", desc := "(I)Z" } : Jvm.MethodName) prog_12_method_56_code (2 : Nat) (Option.some Jvm.ClassFile.FieldType.boolean) ∈ GW := GW_t 1570 (by decide +kernel) rfl
theorem w_1576 : Jvm.Cond.methodLink "WidowRoadsLaw" (52 : Nat) ({ cls := "WidowRoadsModel", name := "steps", desc := "(I)I" } : Jvm.MethodName) ∈ GW := GW_t 1576 (by decide +kernel) rfl
theorem w_1577 : Jvm.Cond.instanceMethod ({ cls := "WidowRoadsModel", name := "steps", desc := "(I)I" } : Jvm.MethodName) ∈ GW := GW_t 1577 (by decide +kernel) rfl
theorem w_1578 : Jvm.Cond.selects "WidowRoadsModel" ({ cls := "WidowRoadsModel", name := "steps", desc := "(I)I" } : Jvm.MethodName) ({ cls := "WidowRoadsModel", name := "steps", desc := "(I)I" } : Jvm.MethodName) ∈ GW := GW_t 1578 (by decide +kernel) rfl
theorem w_1579 : Jvm.Cond.code ({ cls := "WidowRoadsModel", name := "steps", desc := "(I)I" } : Jvm.MethodName) prog_12_method_67_code (2 : Nat) (Option.some Jvm.ClassFile.FieldType.int) ∈ GW := GW_t 1579 (by decide +kernel) rfl
theorem w_1580 : Jvm.Cond.methodLink "WidowRoadsLaw" (56 : Nat) ({ cls := "WidowRoadsModel", name := "stands", desc := "(I)I" } : Jvm.MethodName) ∈ GW := GW_t 1580 (by decide +kernel) rfl
theorem w_1581 : Jvm.Cond.instanceMethod ({ cls := "WidowRoadsModel", name := "stands", desc := "(I)I" } : Jvm.MethodName) ∈ GW := GW_t 1581 (by decide +kernel) rfl
theorem w_1582 : Jvm.Cond.selects "WidowRoadsModel" ({ cls := "WidowRoadsModel", name := "stands", desc := "(I)I" } : Jvm.MethodName) ({ cls := "WidowRoadsModel", name := "stands", desc := "(I)I" } : Jvm.MethodName) ∈ GW := GW_t 1582 (by decide +kernel) rfl
theorem w_1583 : Jvm.Cond.code ({ cls := "WidowRoadsModel", name := "stands", desc := "(I)I" } : Jvm.MethodName) prog_12_method_68_code (4 : Nat) (Option.some Jvm.ClassFile.FieldType.int) ∈ GW := GW_t 1583 (by decide +kernel) rfl
theorem w_1588 : Jvm.Cond.methodLink "WidowRoadsLaw" (60 : Nat) ({ cls := "WidowRoadsModel", name := "ground", desc := "(I)I" } : Jvm.MethodName) ∈ GW := GW_t 1588 (by decide +kernel) rfl
theorem w_1589 : Jvm.Cond.instanceMethod ({ cls := "WidowRoadsModel", name := "ground", desc := "(I)I" } : Jvm.MethodName) ∈ GW := GW_t 1589 (by decide +kernel) rfl
theorem w_1590 : Jvm.Cond.selects "WidowRoadsModel" ({ cls := "WidowRoadsModel", name := "ground", desc := "(I)I" } : Jvm.MethodName) ({ cls := "WidowRoadsModel", name := "ground", desc := "(I)I" } : Jvm.MethodName) ∈ GW := GW_t 1590 (by decide +kernel) rfl
theorem w_1591 : Jvm.Cond.code ({ cls := "WidowRoadsModel", name := "ground", desc := "(I)I" } : Jvm.MethodName) prog_12_method_70_code (2 : Nat) (Option.some Jvm.ClassFile.FieldType.int) ∈ GW := GW_t 1591 (by decide +kernel) rfl
theorem w_1600 : Jvm.Cond.methodLink "WidowRoadsLaw" (64 : Nat) ({ cls := "WidowRoadsModel", name := "loop", desc := "(I)I" } : Jvm.MethodName) ∈ GW := GW_t 1600 (by decide +kernel) rfl
theorem w_1601 : Jvm.Cond.instanceMethod ({ cls := "WidowRoadsModel", name := "loop", desc := "(I)I" } : Jvm.MethodName) ∈ GW := GW_t 1601 (by decide +kernel) rfl
theorem w_1602 : Jvm.Cond.selects "WidowRoadsModel" ({ cls := "WidowRoadsModel", name := "loop", desc := "(I)I" } : Jvm.MethodName) ({ cls := "WidowRoadsModel", name := "loop", desc := "(I)I" } : Jvm.MethodName) ∈ GW := GW_t 1602 (by decide +kernel) rfl
theorem w_1603 : Jvm.Cond.code ({ cls := "WidowRoadsModel", name := "loop", desc := "(I)I" } : Jvm.MethodName) prog_12_method_71_code (3 : Nat) (Option.some Jvm.ClassFile.FieldType.int) ∈ GW := GW_t 1603 (by decide +kernel) rfl
theorem w_1604 : Jvm.Cond.methodLink "WidowRoadsLaw" (68 : Nat) ({ cls := "WidowRoadsModel", name := "haunt", desc := "(I)I" } : Jvm.MethodName) ∈ GW := GW_t 1604 (by decide +kernel) rfl
theorem w_1605 : Jvm.Cond.instanceMethod ({ cls := "WidowRoadsModel", name := "haunt", desc := "(I)I" } : Jvm.MethodName) ∈ GW := GW_t 1605 (by decide +kernel) rfl
theorem w_1606 : Jvm.Cond.selects "WidowRoadsModel" ({ cls := "WidowRoadsModel", name := "haunt", desc := "(I)I" } : Jvm.MethodName) ({ cls := "WidowRoadsModel", name := "haunt", desc := "(I)I" } : Jvm.MethodName) ∈ GW := GW_t 1606 (by decide +kernel) rfl
theorem w_1607 : Jvm.Cond.code ({ cls := "WidowRoadsModel", name := "haunt", desc := "(I)I" } : Jvm.MethodName) prog_12_method_73_code (4 : Nat) (Option.some Jvm.ClassFile.FieldType.int) ∈ GW := GW_t 1607 (by decide +kernel) rfl
theorem w_1612 : Jvm.Cond.methodLink "WidowRoadsLaw" (76 : Nat) ({ cls := "WidowRoadsModel", name := "visits", desc := "(II)I" } : Jvm.MethodName) ∈ GW := GW_t 1612 (by decide +kernel) rfl
theorem w_1613 : Jvm.Cond.instanceMethod ({ cls := "WidowRoadsModel", name := "visits", desc := "(II)I" } : Jvm.MethodName) ∈ GW := GW_t 1613 (by decide +kernel) rfl
theorem w_1614 : Jvm.Cond.selects "WidowRoadsModel" ({ cls := "WidowRoadsModel", name := "visits", desc := "(II)I" } : Jvm.MethodName) ({ cls := "WidowRoadsModel", name := "visits", desc := "(II)I" } : Jvm.MethodName) ∈ GW := GW_t 1614 (by decide +kernel) rfl
theorem w_1615 : Jvm.Cond.code ({ cls := "WidowRoadsModel", name := "visits", desc := "(II)I" } : Jvm.MethodName) prog_12_method_74_code (3 : Nat) (Option.some Jvm.ClassFile.FieldType.int) ∈ GW := GW_t 1615 (by decide +kernel) rfl
theorem w_1616 : Jvm.Cond.methodLink "WidowRoadsLaw" (72 : Nat) ({ cls := "WidowRoadsModel", name := "evening", desc := "(I)I" } : Jvm.MethodName) ∈ GW := GW_t 1616 (by decide +kernel) rfl
theorem w_1617 : Jvm.Cond.instanceMethod ({ cls := "WidowRoadsModel", name := "evening", desc := "(I)I" } : Jvm.MethodName) ∈ GW := GW_t 1617 (by decide +kernel) rfl
theorem w_1618 : Jvm.Cond.selects "WidowRoadsModel" ({ cls := "WidowRoadsModel", name := "evening", desc := "(I)I" } : Jvm.MethodName) ({ cls := "WidowRoadsModel", name := "evening", desc := "(I)I" } : Jvm.MethodName) ∈ GW := GW_t 1618 (by decide +kernel) rfl
theorem w_1619 : Jvm.Cond.code ({ cls := "WidowRoadsModel", name := "evening", desc := "(I)I" } : Jvm.MethodName) prog_12_method_75_code (4 : Nat) (Option.some Jvm.ClassFile.FieldType.int) ∈ GW := GW_t 1619 (by decide +kernel) rfl
theorem w_1620 : Jvm.Cond.methodLink "WidowRoadsModel" (373 : Nat) ({ cls := "WidowRoadsModel", name := "asksYear", desc := "(I)Z" } : Jvm.MethodName) ∈ GW := GW_t 1620 (by decide +kernel) rfl
theorem w_1622 : Jvm.Cond.instanceMethod ({ cls := "WidowRoadsModel", name := "asksYear", desc := "(I)Z" } : Jvm.MethodName) ∈ GW := GW_t 1622 (by decide +kernel) rfl
theorem w_1623 : Jvm.Cond.code ({ cls := "WidowRoadsModel", name := "asksYear", desc := "(I)Z" } : Jvm.MethodName) prog_12_method_55_code (2 : Nat) (Option.some Jvm.ClassFile.FieldType.boolean) ∈ GW := GW_t 1623 (by decide +kernel) rfl
theorem w_1624 : Jvm.Cond.methodLink "WidowRoadsModel" (338 : Nat) ({ cls := "WidowRoadsModel", name := "isYear", desc := "(J)Z" } : Jvm.MethodName) ∈ GW := GW_t 1624 (by decide +kernel) rfl
theorem w_1626 : Jvm.Cond.instanceMethod ({ cls := "WidowRoadsModel", name := "isYear", desc := "(J)Z" } : Jvm.MethodName) ∈ GW := GW_t 1626 (by decide +kernel) rfl
theorem w_1627 : Jvm.Cond.code ({ cls := "WidowRoadsModel", name := "isYear", desc := "(J)Z" } : Jvm.MethodName) prog_12_method_13_code (3 : Nat) (Option.some Jvm.ClassFile.FieldType.boolean) ∈ GW := GW_t 1627 (by decide +kernel) rfl
theorem w_1628 : Jvm.Cond.methodLink "WidowRoadsLaw" (80 : Nat) ({ cls := "WidowRoadsModel", name := "straight", desc := "(I)I" } : Jvm.MethodName) ∈ GW := GW_t 1628 (by decide +kernel) rfl
theorem w_1629 : Jvm.Cond.instanceMethod ({ cls := "WidowRoadsModel", name := "straight", desc := "(I)I" } : Jvm.MethodName) ∈ GW := GW_t 1629 (by decide +kernel) rfl
theorem w_1630 : Jvm.Cond.selects "WidowRoadsModel" ({ cls := "WidowRoadsModel", name := "straight", desc := "(I)I" } : Jvm.MethodName) ({ cls := "WidowRoadsModel", name := "straight", desc := "(I)I" } : Jvm.MethodName) ∈ GW := GW_t 1630 (by decide +kernel) rfl
theorem w_1631 : Jvm.Cond.code ({ cls := "WidowRoadsModel", name := "straight", desc := "(I)I" } : Jvm.MethodName) prog_12_method_79_code (3 : Nat) (Option.some Jvm.ClassFile.FieldType.int) ∈ GW := GW_t 1631 (by decide +kernel) rfl
theorem w_1648 : Jvm.Cond.methodLink "WidowRoadsLaw" (129 : Nat) ({ cls := "WidowRoadsModel", name := "beeline", desc := "(II)I" } : Jvm.MethodName) ∈ GW := GW_t 1648 (by decide +kernel) rfl
theorem w_1649 : Jvm.Cond.instanceMethod ({ cls := "WidowRoadsModel", name := "beeline", desc := "(II)I" } : Jvm.MethodName) ∈ GW := GW_t 1649 (by decide +kernel) rfl
theorem w_1650 : Jvm.Cond.selects "WidowRoadsModel" ({ cls := "WidowRoadsModel", name := "beeline", desc := "(II)I" } : Jvm.MethodName) ({ cls := "WidowRoadsModel", name := "beeline", desc := "(II)I" } : Jvm.MethodName) ∈ GW := GW_t 1650 (by decide +kernel) rfl
theorem w_1651 : Jvm.Cond.code ({ cls := "WidowRoadsModel", name := "beeline", desc := "(II)I" } : Jvm.MethodName) prog_12_method_80_code (3 : Nat) (Option.some Jvm.ClassFile.FieldType.int) ∈ GW := GW_t 1651 (by decide +kernel) rfl
theorem w_1652 : Jvm.Cond.methodLink "WidowRoadsLaw" (125 : Nat) ({ cls := "WidowRoadsModel", name := "way", desc := "(III)I" } : Jvm.MethodName) ∈ GW := GW_t 1652 (by decide +kernel) rfl
theorem w_1653 : Jvm.Cond.instanceMethod ({ cls := "WidowRoadsModel", name := "way", desc := "(III)I" } : Jvm.MethodName) ∈ GW := GW_t 1653 (by decide +kernel) rfl
theorem w_1654 : Jvm.Cond.selects "WidowRoadsModel" ({ cls := "WidowRoadsModel", name := "way", desc := "(III)I" } : Jvm.MethodName) ({ cls := "WidowRoadsModel", name := "way", desc := "(III)I" } : Jvm.MethodName) ∈ GW := GW_t 1654 (by decide +kernel) rfl
theorem w_1655 : Jvm.Cond.code ({ cls := "WidowRoadsModel", name := "way", desc := "(III)I" } : Jvm.MethodName) prog_12_method_81_code (4 : Nat) (Option.some Jvm.ClassFile.FieldType.int) ∈ GW := GW_t 1655 (by decide +kernel) rfl
theorem w_1660 : Jvm.Cond.methodLink "WidowRoadsLaw" (120 : Nat) ({ cls := "WidowRoadsModel", name := "net", desc := "(II)I" } : Jvm.MethodName) ∈ GW := GW_t 1660 (by decide +kernel) rfl
theorem w_1661 : Jvm.Cond.instanceMethod ({ cls := "WidowRoadsModel", name := "net", desc := "(II)I" } : Jvm.MethodName) ∈ GW := GW_t 1661 (by decide +kernel) rfl
theorem w_1662 : Jvm.Cond.selects "WidowRoadsModel" ({ cls := "WidowRoadsModel", name := "net", desc := "(II)I" } : Jvm.MethodName) ({ cls := "WidowRoadsModel", name := "net", desc := "(II)I" } : Jvm.MethodName) ∈ GW := GW_t 1662 (by decide +kernel) rfl
theorem w_1663 : Jvm.Cond.code ({ cls := "WidowRoadsModel", name := "net", desc := "(II)I" } : Jvm.MethodName) prog_12_method_83_code (3 : Nat) (Option.some Jvm.ClassFile.FieldType.int) ∈ GW := GW_t 1663 (by decide +kernel) rfl
theorem w_1668 : Jvm.Cond.methodLink "WidowRoadsLaw" (133 : Nat) ({ cls := "WidowRoadsModel", name := "farthest", desc := "(II)I" } : Jvm.MethodName) ∈ GW := GW_t 1668 (by decide +kernel) rfl
theorem w_1669 : Jvm.Cond.instanceMethod ({ cls := "WidowRoadsModel", name := "farthest", desc := "(II)I" } : Jvm.MethodName) ∈ GW := GW_t 1669 (by decide +kernel) rfl
theorem w_1670 : Jvm.Cond.selects "WidowRoadsModel" ({ cls := "WidowRoadsModel", name := "farthest", desc := "(II)I" } : Jvm.MethodName) ({ cls := "WidowRoadsModel", name := "farthest", desc := "(II)I" } : Jvm.MethodName) ∈ GW := GW_t 1670 (by decide +kernel) rfl
theorem w_1671 : Jvm.Cond.code ({ cls := "WidowRoadsModel", name := "farthest", desc := "(II)I" } : Jvm.MethodName) prog_12_method_84_code (5 : Nat) (Option.some Jvm.ClassFile.FieldType.int) ∈ GW := GW_t 1671 (by decide +kernel) rfl
theorem w_1672 : Jvm.Cond.methodLink "WidowRoadsLaw" (84 : Nat) ({ cls := "WidowRoadsModel", name := "road", desc := "(II)I" } : Jvm.MethodName) ∈ GW := GW_t 1672 (by decide +kernel) rfl
theorem w_1673 : Jvm.Cond.instanceMethod ({ cls := "WidowRoadsModel", name := "road", desc := "(II)I" } : Jvm.MethodName) ∈ GW := GW_t 1673 (by decide +kernel) rfl
theorem w_1674 : Jvm.Cond.selects "WidowRoadsModel" ({ cls := "WidowRoadsModel", name := "road", desc := "(II)I" } : Jvm.MethodName) ({ cls := "WidowRoadsModel", name := "road", desc := "(II)I" } : Jvm.MethodName) ∈ GW := GW_t 1674 (by decide +kernel) rfl
theorem w_1675 : Jvm.Cond.code ({ cls := "WidowRoadsModel", name := "road", desc := "(II)I" } : Jvm.MethodName) prog_12_method_85_code (3 : Nat) (Option.some Jvm.ClassFile.FieldType.int) ∈ GW := GW_t 1675 (by decide +kernel) rfl
theorem w_1676 : Jvm.Cond.methodLink "WidowRoadsLaw" (88 : Nat) ({ cls := "WidowRoadsModel", name := "roads", desc := "(I)I" } : Jvm.MethodName) ∈ GW := GW_t 1676 (by decide +kernel) rfl
theorem w_1677 : Jvm.Cond.instanceMethod ({ cls := "WidowRoadsModel", name := "roads", desc := "(I)I" } : Jvm.MethodName) ∈ GW := GW_t 1677 (by decide +kernel) rfl
theorem w_1678 : Jvm.Cond.selects "WidowRoadsModel" ({ cls := "WidowRoadsModel", name := "roads", desc := "(I)I" } : Jvm.MethodName) ({ cls := "WidowRoadsModel", name := "roads", desc := "(I)I" } : Jvm.MethodName) ∈ GW := GW_t 1678 (by decide +kernel) rfl
theorem w_1679 : Jvm.Cond.code ({ cls := "WidowRoadsModel", name := "roads", desc := "(I)I" } : Jvm.MethodName) prog_12_method_87_code (2 : Nat) (Option.some Jvm.ClassFile.FieldType.int) ∈ GW := GW_t 1679 (by decide +kernel) rfl
theorem w_1684 : Jvm.Cond.methodLink "WidowRoadsLaw" (92 : Nat) ({ cls := "WidowRoadsModel", name := "pegs", desc := "(I)I" } : Jvm.MethodName) ∈ GW := GW_t 1684 (by decide +kernel) rfl
theorem w_1685 : Jvm.Cond.instanceMethod ({ cls := "WidowRoadsModel", name := "pegs", desc := "(I)I" } : Jvm.MethodName) ∈ GW := GW_t 1685 (by decide +kernel) rfl
theorem w_1686 : Jvm.Cond.selects "WidowRoadsModel" ({ cls := "WidowRoadsModel", name := "pegs", desc := "(I)I" } : Jvm.MethodName) ({ cls := "WidowRoadsModel", name := "pegs", desc := "(I)I" } : Jvm.MethodName) ∈ GW := GW_t 1686 (by decide +kernel) rfl
theorem w_1687 : Jvm.Cond.code ({ cls := "WidowRoadsModel", name := "pegs", desc := "(I)I" } : Jvm.MethodName) prog_12_method_88_code (2 : Nat) (Option.some Jvm.ClassFile.FieldType.int) ∈ GW := GW_t 1687 (by decide +kernel) rfl
theorem w_1695 : Jvm.Cond.methodLink "WidowRoadsLaw" (96 : Nat) ({ cls := "WidowRoadsModel", name := "joins", desc := "(II)I" } : Jvm.MethodName) ∈ GW := GW_t 1695 (by decide +kernel) rfl
theorem w_1696 : Jvm.Cond.instanceMethod ({ cls := "WidowRoadsModel", name := "joins", desc := "(II)I" } : Jvm.MethodName) ∈ GW := GW_t 1696 (by decide +kernel) rfl
theorem w_1697 : Jvm.Cond.selects "WidowRoadsModel" ({ cls := "WidowRoadsModel", name := "joins", desc := "(II)I" } : Jvm.MethodName) ({ cls := "WidowRoadsModel", name := "joins", desc := "(II)I" } : Jvm.MethodName) ∈ GW := GW_t 1697 (by decide +kernel) rfl
theorem w_1698 : Jvm.Cond.code ({ cls := "WidowRoadsModel", name := "joins", desc := "(II)I" } : Jvm.MethodName) prog_12_method_89_code (3 : Nat) (Option.some Jvm.ClassFile.FieldType.int) ∈ GW := GW_t 1698 (by decide +kernel) rfl
theorem w_1699 : Jvm.Cond.methodLink "WidowRoadsLaw" (100 : Nat) ({ cls := "WidowRoadsModel", name := "corners", desc := "(II)I" } : Jvm.MethodName) ∈ GW := GW_t 1699 (by decide +kernel) rfl
theorem w_1700 : Jvm.Cond.instanceMethod ({ cls := "WidowRoadsModel", name := "corners", desc := "(II)I" } : Jvm.MethodName) ∈ GW := GW_t 1700 (by decide +kernel) rfl
theorem w_1701 : Jvm.Cond.selects "WidowRoadsModel" ({ cls := "WidowRoadsModel", name := "corners", desc := "(II)I" } : Jvm.MethodName) ({ cls := "WidowRoadsModel", name := "corners", desc := "(II)I" } : Jvm.MethodName) ∈ GW := GW_t 1701 (by decide +kernel) rfl
theorem w_1702 : Jvm.Cond.code ({ cls := "WidowRoadsModel", name := "corners", desc := "(II)I" } : Jvm.MethodName) prog_12_method_90_code (5 : Nat) (Option.some Jvm.ClassFile.FieldType.int) ∈ GW := GW_t 1702 (by decide +kernel) rfl
theorem w_1703 : Jvm.Cond.methodLink "WidowRoadsLaw" (104 : Nat) ({ cls := "WidowRoadsModel", name := "nets", desc := "(I)I" } : Jvm.MethodName) ∈ GW := GW_t 1703 (by decide +kernel) rfl
theorem w_1704 : Jvm.Cond.instanceMethod ({ cls := "WidowRoadsModel", name := "nets", desc := "(I)I" } : Jvm.MethodName) ∈ GW := GW_t 1704 (by decide +kernel) rfl
theorem w_1705 : Jvm.Cond.selects "WidowRoadsModel" ({ cls := "WidowRoadsModel", name := "nets", desc := "(I)I" } : Jvm.MethodName) ({ cls := "WidowRoadsModel", name := "nets", desc := "(I)I" } : Jvm.MethodName) ∈ GW := GW_t 1705 (by decide +kernel) rfl
theorem w_1706 : Jvm.Cond.code ({ cls := "WidowRoadsModel", name := "nets", desc := "(I)I" } : Jvm.MethodName) prog_12_method_92_code (2 : Nat) (Option.some Jvm.ClassFile.FieldType.int) ∈ GW := GW_t 1706 (by decide +kernel) rfl
theorem w_1711 : Jvm.Cond.methodLink "WidowRoadsLaw" (108 : Nat) ({ cls := "WidowRoadsModel", name := "missing", desc := "(I)I" } : Jvm.MethodName) ∈ GW := GW_t 1711 (by decide +kernel) rfl
theorem w_1712 : Jvm.Cond.instanceMethod ({ cls := "WidowRoadsModel", name := "missing", desc := "(I)I" } : Jvm.MethodName) ∈ GW := GW_t 1712 (by decide +kernel) rfl
theorem w_1713 : Jvm.Cond.selects "WidowRoadsModel" ({ cls := "WidowRoadsModel", name := "missing", desc := "(I)I" } : Jvm.MethodName) ({ cls := "WidowRoadsModel", name := "missing", desc := "(I)I" } : Jvm.MethodName) ∈ GW := GW_t 1713 (by decide +kernel) rfl
theorem w_1714 : Jvm.Cond.code ({ cls := "WidowRoadsModel", name := "missing", desc := "(I)I" } : Jvm.MethodName) prog_12_method_94_code (2 : Nat) (Option.some Jvm.ClassFile.FieldType.int) ∈ GW := GW_t 1714 (by decide +kernel) rfl
theorem w_1719 : Jvm.Cond.methodLink "WidowRoadsLaw" (112 : Nat) ({ cls := "WidowRoadsModel", name := "rings", desc := "(I)I" } : Jvm.MethodName) ∈ GW := GW_t 1719 (by decide +kernel) rfl
theorem w_1720 : Jvm.Cond.instanceMethod ({ cls := "WidowRoadsModel", name := "rings", desc := "(I)I" } : Jvm.MethodName) ∈ GW := GW_t 1720 (by decide +kernel) rfl
theorem w_1721 : Jvm.Cond.selects "WidowRoadsModel" ({ cls := "WidowRoadsModel", name := "rings", desc := "(I)I" } : Jvm.MethodName) ({ cls := "WidowRoadsModel", name := "rings", desc := "(I)I" } : Jvm.MethodName) ∈ GW := GW_t 1721 (by decide +kernel) rfl
theorem w_1722 : Jvm.Cond.code ({ cls := "WidowRoadsModel", name := "rings", desc := "(I)I" } : Jvm.MethodName) prog_12_method_95_code (2 : Nat) (Option.some Jvm.ClassFile.FieldType.int) ∈ GW := GW_t 1722 (by decide +kernel) rfl
theorem w_1723 : Jvm.Cond.methodLink "WidowRoadsLaw" (116 : Nat) ({ cls := "WidowRoadsModel", name := "bridges", desc := "(I)I" } : Jvm.MethodName) ∈ GW := GW_t 1723 (by decide +kernel) rfl
theorem w_1724 : Jvm.Cond.instanceMethod ({ cls := "WidowRoadsModel", name := "bridges", desc := "(I)I" } : Jvm.MethodName) ∈ GW := GW_t 1724 (by decide +kernel) rfl
theorem w_1725 : Jvm.Cond.selects "WidowRoadsModel" ({ cls := "WidowRoadsModel", name := "bridges", desc := "(I)I" } : Jvm.MethodName) ({ cls := "WidowRoadsModel", name := "bridges", desc := "(I)I" } : Jvm.MethodName) ∈ GW := GW_t 1725 (by decide +kernel) rfl
theorem w_1726 : Jvm.Cond.code ({ cls := "WidowRoadsModel", name := "bridges", desc := "(I)I" } : Jvm.MethodName) prog_12_method_96_code (6 : Nat) (Option.some Jvm.ClassFile.FieldType.int) ∈ GW := GW_t 1726 (by decide +kernel) rfl
theorem w_1727 : Jvm.Cond.methodLink "WidowRoadsLaw" (153 : Nat) ({ cls := "WidowRoadsModel", name := "line", desc := "(I)I" } : Jvm.MethodName) ∈ GW := GW_t 1727 (by decide +kernel) rfl
theorem w_1728 : Jvm.Cond.instanceMethod ({ cls := "WidowRoadsModel", name := "line", desc := "(I)I" } : Jvm.MethodName) ∈ GW := GW_t 1728 (by decide +kernel) rfl
theorem w_1729 : Jvm.Cond.selects "WidowRoadsModel" ({ cls := "WidowRoadsModel", name := "line", desc := "(I)I" } : Jvm.MethodName) ({ cls := "WidowRoadsModel", name := "line", desc := "(I)I" } : Jvm.MethodName) ∈ GW := GW_t 1729 (by decide +kernel) rfl
theorem w_1730 : Jvm.Cond.code ({ cls := "WidowRoadsModel", name := "line", desc := "(I)I" } : Jvm.MethodName) prog_12_method_97_code (7 : Nat) (Option.some Jvm.ClassFile.FieldType.int) ∈ GW := GW_t 1730 (by decide +kernel) rfl
theorem w_1732 : Jvm.Cond.methodLink "WidowRoadsLaw" (149 : Nat) ({ cls := "WidowRoadsModel", name := "first", desc := "(I)I" } : Jvm.MethodName) ∈ GW := GW_t 1732 (by decide +kernel) rfl
theorem w_1733 : Jvm.Cond.instanceMethod ({ cls := "WidowRoadsModel", name := "first", desc := "(I)I" } : Jvm.MethodName) ∈ GW := GW_t 1733 (by decide +kernel) rfl
theorem w_1734 : Jvm.Cond.selects "WidowRoadsModel" ({ cls := "WidowRoadsModel", name := "first", desc := "(I)I" } : Jvm.MethodName) ({ cls := "WidowRoadsModel", name := "first", desc := "(I)I" } : Jvm.MethodName) ∈ GW := GW_t 1734 (by decide +kernel) rfl
theorem w_1735 : Jvm.Cond.code ({ cls := "WidowRoadsModel", name := "first", desc := "(I)I" } : Jvm.MethodName) prog_12_method_98_code (3 : Nat) (Option.some Jvm.ClassFile.FieldType.int) ∈ GW := GW_t 1735 (by decide +kernel) rfl
theorem w_1736 : Jvm.Cond.methodLink "WidowRoadsLaw" (145 : Nat) ({ cls := "WidowRoadsModel", name := "walked", desc := "(I)I" } : Jvm.MethodName) ∈ GW := GW_t 1736 (by decide +kernel) rfl
theorem w_1737 : Jvm.Cond.instanceMethod ({ cls := "WidowRoadsModel", name := "walked", desc := "(I)I" } : Jvm.MethodName) ∈ GW := GW_t 1737 (by decide +kernel) rfl
theorem w_1738 : Jvm.Cond.selects "WidowRoadsModel" ({ cls := "WidowRoadsModel", name := "walked", desc := "(I)I" } : Jvm.MethodName) ({ cls := "WidowRoadsModel", name := "walked", desc := "(I)I" } : Jvm.MethodName) ∈ GW := GW_t 1738 (by decide +kernel) rfl
theorem w_1739 : Jvm.Cond.code ({ cls := "WidowRoadsModel", name := "walked", desc := "(I)I" } : Jvm.MethodName) prog_12_method_100_code (2 : Nat) (Option.some Jvm.ClassFile.FieldType.int) ∈ GW := GW_t 1739 (by decide +kernel) rfl
theorem w_1744 : Jvm.Cond.methodLink "WidowRoadsLaw" (137 : Nat) ({ cls := "WidowRoadsModel", name := "crossing", desc := "()I" } : Jvm.MethodName) ∈ GW := GW_t 1744 (by decide +kernel) rfl
theorem w_1745 : Jvm.Cond.instanceMethod ({ cls := "WidowRoadsModel", name := "crossing", desc := "()I" } : Jvm.MethodName) ∈ GW := GW_t 1745 (by decide +kernel) rfl
theorem w_1746 : Jvm.Cond.selects "WidowRoadsModel" ({ cls := "WidowRoadsModel", name := "crossing", desc := "()I" } : Jvm.MethodName) ({ cls := "WidowRoadsModel", name := "crossing", desc := "()I" } : Jvm.MethodName) ∈ GW := GW_t 1746 (by decide +kernel) rfl
theorem w_1747 : Jvm.Cond.code ({ cls := "WidowRoadsModel", name := "crossing", desc := "()I" } : Jvm.MethodName) prog_12_method_101_code (3 : Nat) (Option.some Jvm.ClassFile.FieldType.int) ∈ GW := GW_t 1747 (by decide +kernel) rfl
theorem w_1748 : Jvm.Cond.methodLink "WidowRoadsLaw" (141 : Nat) ({ cls := "WidowRoadsModel", name := "shared", desc := "(II)I" } : Jvm.MethodName) ∈ GW := GW_t 1748 (by decide +kernel) rfl
theorem w_1749 : Jvm.Cond.instanceMethod ({ cls := "WidowRoadsModel", name := "shared", desc := "(II)I" } : Jvm.MethodName) ∈ GW := GW_t 1749 (by decide +kernel) rfl
theorem w_1750 : Jvm.Cond.selects "WidowRoadsModel" ({ cls := "WidowRoadsModel", name := "shared", desc := "(II)I" } : Jvm.MethodName) ({ cls := "WidowRoadsModel", name := "shared", desc := "(II)I" } : Jvm.MethodName) ∈ GW := GW_t 1750 (by decide +kernel) rfl
theorem w_1751 : Jvm.Cond.code ({ cls := "WidowRoadsModel", name := "shared", desc := "(II)I" } : Jvm.MethodName) prog_12_method_102_code (5 : Nat) (Option.some Jvm.ClassFile.FieldType.int) ∈ GW := GW_t 1751 (by decide +kernel) rfl
theorem w_1752 : Jvm.Cond.methodLink "WidowRoadsLaw" (173 : Nat) ({ cls := "WidowRoadsModel", name := "cover", desc := "()I" } : Jvm.MethodName) ∈ GW := GW_t 1752 (by decide +kernel) rfl
theorem w_1753 : Jvm.Cond.instanceMethod ({ cls := "WidowRoadsModel", name := "cover", desc := "()I" } : Jvm.MethodName) ∈ GW := GW_t 1753 (by decide +kernel) rfl
theorem w_1754 : Jvm.Cond.selects "WidowRoadsModel" ({ cls := "WidowRoadsModel", name := "cover", desc := "()I" } : Jvm.MethodName) ({ cls := "WidowRoadsModel", name := "cover", desc := "()I" } : Jvm.MethodName) ∈ GW := GW_t 1754 (by decide +kernel) rfl
theorem w_1755 : Jvm.Cond.code ({ cls := "WidowRoadsModel", name := "cover", desc := "()I" } : Jvm.MethodName) prog_12_method_104_code (1 : Nat) (Option.some Jvm.ClassFile.FieldType.int) ∈ GW := GW_t 1755 (by decide +kernel) rfl
theorem w_1760 : Jvm.Cond.methodLink "WidowRoadsLaw" (177 : Nat) ({ cls := "WidowRoadsModel", name := "covers", desc := "()I" } : Jvm.MethodName) ∈ GW := GW_t 1760 (by decide +kernel) rfl
theorem w_1761 : Jvm.Cond.instanceMethod ({ cls := "WidowRoadsModel", name := "covers", desc := "()I" } : Jvm.MethodName) ∈ GW := GW_t 1761 (by decide +kernel) rfl
theorem w_1762 : Jvm.Cond.selects "WidowRoadsModel" ({ cls := "WidowRoadsModel", name := "covers", desc := "()I" } : Jvm.MethodName) ({ cls := "WidowRoadsModel", name := "covers", desc := "()I" } : Jvm.MethodName) ∈ GW := GW_t 1762 (by decide +kernel) rfl
theorem w_1763 : Jvm.Cond.code ({ cls := "WidowRoadsModel", name := "covers", desc := "()I" } : Jvm.MethodName) prog_12_method_105_code (1 : Nat) (Option.some Jvm.ClassFile.FieldType.int) ∈ GW := GW_t 1763 (by decide +kernel) rfl
theorem w_1764 : Jvm.Cond.methodLink "WidowRoadsLaw" (157 : Nat) ({ cls := "WidowRoadsModel", name := "house", desc := "(II)I" } : Jvm.MethodName) ∈ GW := GW_t 1764 (by decide +kernel) rfl
theorem w_1765 : Jvm.Cond.instanceMethod ({ cls := "WidowRoadsModel", name := "house", desc := "(II)I" } : Jvm.MethodName) ∈ GW := GW_t 1765 (by decide +kernel) rfl
theorem w_1766 : Jvm.Cond.selects "WidowRoadsModel" ({ cls := "WidowRoadsModel", name := "house", desc := "(II)I" } : Jvm.MethodName) ({ cls := "WidowRoadsModel", name := "house", desc := "(II)I" } : Jvm.MethodName) ∈ GW := GW_t 1766 (by decide +kernel) rfl
theorem w_1767 : Jvm.Cond.code ({ cls := "WidowRoadsModel", name := "house", desc := "(II)I" } : Jvm.MethodName) prog_12_method_107_code (3 : Nat) (Option.some Jvm.ClassFile.FieldType.int) ∈ GW := GW_t 1767 (by decide +kernel) rfl
theorem w_1768 : Jvm.Cond.methodLink "WidowRoadsModel" (410 : Nat) ({ cls := "WidowRoadsModel", name := "isHouseTold", desc := "(I)Z" } : Jvm.MethodName) ∈ GW := GW_t 1768 (by decide +kernel) rfl
theorem w_1770 : Jvm.Cond.instanceMethod ({ cls := "WidowRoadsModel", name := "isHouseTold", desc := "(I)Z" } : Jvm.MethodName) ∈ GW := GW_t 1770 (by decide +kernel) rfl
theorem w_1771 : Jvm.Cond.code ({ cls := "WidowRoadsModel", name := "isHouseTold", desc := "(I)Z" } : Jvm.MethodName) prog_12_method_106_code (2 : Nat) (Option.some Jvm.ClassFile.FieldType.boolean) ∈ GW := GW_t 1771 (by decide +kernel) rfl
theorem w_1772 : Jvm.Cond.methodLink "WidowRoadsLaw" (161 : Nat) ({ cls := "WidowRoadsModel", name := "moved", desc := "(I)I" } : Jvm.MethodName) ∈ GW := GW_t 1772 (by decide +kernel) rfl
theorem w_1773 : Jvm.Cond.instanceMethod ({ cls := "WidowRoadsModel", name := "moved", desc := "(I)I" } : Jvm.MethodName) ∈ GW := GW_t 1773 (by decide +kernel) rfl
theorem w_1774 : Jvm.Cond.selects "WidowRoadsModel" ({ cls := "WidowRoadsModel", name := "moved", desc := "(I)I" } : Jvm.MethodName) ({ cls := "WidowRoadsModel", name := "moved", desc := "(I)I" } : Jvm.MethodName) ∈ GW := GW_t 1774 (by decide +kernel) rfl
theorem w_1775 : Jvm.Cond.code ({ cls := "WidowRoadsModel", name := "moved", desc := "(I)I" } : Jvm.MethodName) prog_12_method_108_code (2 : Nat) (Option.some Jvm.ClassFile.FieldType.int) ∈ GW := GW_t 1775 (by decide +kernel) rfl
theorem w_1776 : Jvm.Cond.methodLink "WidowRoadsLaw" (165 : Nat) ({ cls := "WidowRoadsModel", name := "moves", desc := "(I)I" } : Jvm.MethodName) ∈ GW := GW_t 1776 (by decide +kernel) rfl
theorem w_1777 : Jvm.Cond.instanceMethod ({ cls := "WidowRoadsModel", name := "moves", desc := "(I)I" } : Jvm.MethodName) ∈ GW := GW_t 1777 (by decide +kernel) rfl
theorem w_1778 : Jvm.Cond.selects "WidowRoadsModel" ({ cls := "WidowRoadsModel", name := "moves", desc := "(I)I" } : Jvm.MethodName) ({ cls := "WidowRoadsModel", name := "moves", desc := "(I)I" } : Jvm.MethodName) ∈ GW := GW_t 1778 (by decide +kernel) rfl
theorem w_1779 : Jvm.Cond.code ({ cls := "WidowRoadsModel", name := "moves", desc := "(I)I" } : Jvm.MethodName) prog_12_method_109_code (2 : Nat) (Option.some Jvm.ClassFile.FieldType.int) ∈ GW := GW_t 1779 (by decide +kernel) rfl
theorem w_1780 : Jvm.Cond.methodLink "WidowRoadsLaw" (169 : Nat) ({ cls := "WidowRoadsModel", name := "served", desc := "(I)I" } : Jvm.MethodName) ∈ GW := GW_t 1780 (by decide +kernel) rfl
theorem w_1781 : Jvm.Cond.instanceMethod ({ cls := "WidowRoadsModel", name := "served", desc := "(I)I" } : Jvm.MethodName) ∈ GW := GW_t 1781 (by decide +kernel) rfl
theorem w_1782 : Jvm.Cond.selects "WidowRoadsModel" ({ cls := "WidowRoadsModel", name := "served", desc := "(I)I" } : Jvm.MethodName) ({ cls := "WidowRoadsModel", name := "served", desc := "(I)I" } : Jvm.MethodName) ∈ GW := GW_t 1782 (by decide +kernel) rfl
theorem w_1783 : Jvm.Cond.code ({ cls := "WidowRoadsModel", name := "served", desc := "(I)I" } : Jvm.MethodName) prog_12_method_111_code (4 : Nat) (Option.some Jvm.ClassFile.FieldType.int) ∈ GW := GW_t 1783 (by decide +kernel) rfl
theorem w_1788 : Jvm.Cond.methodLink "WidowRoadsLaw" (181 : Nat) ({ cls := "WidowRoadsModel", name := "blame", desc := "()I" } : Jvm.MethodName) ∈ GW := GW_t 1788 (by decide +kernel) rfl
theorem w_1789 : Jvm.Cond.instanceMethod ({ cls := "WidowRoadsModel", name := "blame", desc := "()I" } : Jvm.MethodName) ∈ GW := GW_t 1789 (by decide +kernel) rfl
theorem w_1790 : Jvm.Cond.selects "WidowRoadsModel" ({ cls := "WidowRoadsModel", name := "blame", desc := "()I" } : Jvm.MethodName) ({ cls := "WidowRoadsModel", name := "blame", desc := "()I" } : Jvm.MethodName) ∈ GW := GW_t 1790 (by decide +kernel) rfl
theorem w_1791 : Jvm.Cond.code ({ cls := "WidowRoadsModel", name := "blame", desc := "()I" } : Jvm.MethodName) prog_12_method_113_code (5 : Nat) (Option.some Jvm.ClassFile.FieldType.int) ∈ GW := GW_t 1791 (by decide +kernel) rfl
theorem w_1796 : Jvm.Cond.methodLink "WidowRoadsLaw" (185 : Nat) ({ cls := "WidowRoadsModel", name := "ford", desc := "()I" } : Jvm.MethodName) ∈ GW := GW_t 1796 (by decide +kernel) rfl
theorem w_1797 : Jvm.Cond.instanceMethod ({ cls := "WidowRoadsModel", name := "ford", desc := "()I" } : Jvm.MethodName) ∈ GW := GW_t 1797 (by decide +kernel) rfl
theorem w_1798 : Jvm.Cond.selects "WidowRoadsModel" ({ cls := "WidowRoadsModel", name := "ford", desc := "()I" } : Jvm.MethodName) ({ cls := "WidowRoadsModel", name := "ford", desc := "()I" } : Jvm.MethodName) ∈ GW := GW_t 1798 (by decide +kernel) rfl
theorem w_1799 : Jvm.Cond.code ({ cls := "WidowRoadsModel", name := "ford", desc := "()I" } : Jvm.MethodName) prog_12_method_114_code (5 : Nat) (Option.some Jvm.ClassFile.FieldType.int) ∈ GW := GW_t 1799 (by decide +kernel) rfl
theorem w_1804 : Jvm.Cond.methodLink "WidowRoadsLaw" (189 : Nat) ({ cls := "WidowRoadsModel", name := "faced", desc := "(II)I" } : Jvm.MethodName) ∈ GW := GW_t 1804 (by decide +kernel) rfl
theorem w_1805 : Jvm.Cond.instanceMethod ({ cls := "WidowRoadsModel", name := "faced", desc := "(II)I" } : Jvm.MethodName) ∈ GW := GW_t 1805 (by decide +kernel) rfl
theorem w_1806 : Jvm.Cond.selects "WidowRoadsModel" ({ cls := "WidowRoadsModel", name := "faced", desc := "(II)I" } : Jvm.MethodName) ({ cls := "WidowRoadsModel", name := "faced", desc := "(II)I" } : Jvm.MethodName) ∈ GW := GW_t 1806 (by decide +kernel) rfl
theorem w_1807 : Jvm.Cond.code ({ cls := "WidowRoadsModel", name := "faced", desc := "(II)I" } : Jvm.MethodName) prog_12_method_120_code (4 : Nat) (Option.some Jvm.ClassFile.FieldType.int) ∈ GW := GW_t 1807 (by decide +kernel) rfl
theorem w_1808 : Jvm.Cond.methodLink "WidowRoadsModel" (435 : Nat) ({ cls := "WidowRoadsModel", name := "askSeen", desc := "(II)I" } : Jvm.MethodName) ∈ GW := GW_t 1808 (by decide +kernel) rfl
theorem w_1810 : Jvm.Cond.instanceMethod ({ cls := "WidowRoadsModel", name := "askSeen", desc := "(II)I" } : Jvm.MethodName) ∈ GW := GW_t 1810 (by decide +kernel) rfl
theorem w_1811 : Jvm.Cond.code ({ cls := "WidowRoadsModel", name := "askSeen", desc := "(II)I" } : Jvm.MethodName) prog_12_method_117_code (3 : Nat) (Option.some Jvm.ClassFile.FieldType.int) ∈ GW := GW_t 1811 (by decide +kernel) rfl
theorem w_1812 : Jvm.Cond.methodLink "WidowRoadsModel" (429 : Nat) ({ cls := "WidowRoadsModel", name := "askSeen", desc := "(I)I" } : Jvm.MethodName) ∈ GW := GW_t 1812 (by decide +kernel) rfl
theorem w_1814 : Jvm.Cond.instanceMethod ({ cls := "WidowRoadsModel", name := "askSeen", desc := "(I)I" } : Jvm.MethodName) ∈ GW := GW_t 1814 (by decide +kernel) rfl
theorem w_1815 : Jvm.Cond.code ({ cls := "WidowRoadsModel", name := "askSeen", desc := "(I)I" } : Jvm.MethodName) prog_12_method_116_code (3 : Nat) (Option.some Jvm.ClassFile.FieldType.int) ∈ GW := GW_t 1815 (by decide +kernel) rfl
theorem w_1816 : Jvm.Cond.methodLink "WidowRoadsModel" (422 : Nat) ({ cls := "WidowRoadsModel", name := "isSlot", desc := "(I)Z" } : Jvm.MethodName) ∈ GW := GW_t 1816 (by decide +kernel) rfl
theorem w_1817 : Jvm.Cond.static ({ cls := "WidowRoadsModel", name := "isSlot", desc := "(I)Z" } : Jvm.MethodName) ∈ GW := GW_t 1817 (by decide +kernel) rfl
theorem w_1818 : Jvm.Cond.code ({ cls := "WidowRoadsModel", name := "isSlot", desc := "(I)Z" } : Jvm.MethodName) prog_12_method_155_code (1 : Nat) (Option.some Jvm.ClassFile.FieldType.boolean) ∈ GW := GW_t 1818 (by decide +kernel) rfl
theorem w_1819 : Jvm.Cond.constantLong "WidowRoadsModel" (449 : Nat) (3 : Int64) ∈ GW := GW_t 1819 (by decide +kernel) rfl
theorem w_1832 : Jvm.Cond.methodLink "WidowRoadsLaw" (193 : Nat) ({ cls := "WidowRoadsModel", name := "griefs", desc := "(II)I" } : Jvm.MethodName) ∈ GW := GW_t 1832 (by decide +kernel) rfl
theorem w_1833 : Jvm.Cond.instanceMethod ({ cls := "WidowRoadsModel", name := "griefs", desc := "(II)I" } : Jvm.MethodName) ∈ GW := GW_t 1833 (by decide +kernel) rfl
theorem w_1834 : Jvm.Cond.selects "WidowRoadsModel" ({ cls := "WidowRoadsModel", name := "griefs", desc := "(II)I" } : Jvm.MethodName) ({ cls := "WidowRoadsModel", name := "griefs", desc := "(II)I" } : Jvm.MethodName) ∈ GW := GW_t 1834 (by decide +kernel) rfl
theorem w_1835 : Jvm.Cond.code ({ cls := "WidowRoadsModel", name := "griefs", desc := "(II)I" } : Jvm.MethodName) prog_12_method_121_code (5 : Nat) (Option.some Jvm.ClassFile.FieldType.int) ∈ GW := GW_t 1835 (by decide +kernel) rfl
theorem w_1836 : Jvm.Cond.methodLink "WidowRoadsLaw" (197 : Nat) ({ cls := "WidowRoadsModel", name := "ask", desc := "(II)I" } : Jvm.MethodName) ∈ GW := GW_t 1836 (by decide +kernel) rfl
theorem w_1837 : Jvm.Cond.instanceMethod ({ cls := "WidowRoadsModel", name := "ask", desc := "(II)I" } : Jvm.MethodName) ∈ GW := GW_t 1837 (by decide +kernel) rfl
theorem w_1838 : Jvm.Cond.selects "WidowRoadsModel" ({ cls := "WidowRoadsModel", name := "ask", desc := "(II)I" } : Jvm.MethodName) ({ cls := "WidowRoadsModel", name := "ask", desc := "(II)I" } : Jvm.MethodName) ∈ GW := GW_t 1838 (by decide +kernel) rfl
theorem w_1839 : Jvm.Cond.code ({ cls := "WidowRoadsModel", name := "ask", desc := "(II)I" } : Jvm.MethodName) prog_12_method_124_code (4 : Nat) (Option.some Jvm.ClassFile.FieldType.int) ∈ GW := GW_t 1839 (by decide +kernel) rfl
theorem w_1848 : Jvm.Cond.methodLink "WidowRoadsLaw" (201 : Nat) ({ cls := "WidowRoadsModel", name := "leaves", desc := "(II)I" } : Jvm.MethodName) ∈ GW := GW_t 1848 (by decide +kernel) rfl
theorem w_1849 : Jvm.Cond.instanceMethod ({ cls := "WidowRoadsModel", name := "leaves", desc := "(II)I" } : Jvm.MethodName) ∈ GW := GW_t 1849 (by decide +kernel) rfl
theorem w_1850 : Jvm.Cond.selects "WidowRoadsModel" ({ cls := "WidowRoadsModel", name := "leaves", desc := "(II)I" } : Jvm.MethodName) ({ cls := "WidowRoadsModel", name := "leaves", desc := "(II)I" } : Jvm.MethodName) ∈ GW := GW_t 1850 (by decide +kernel) rfl
theorem w_1851 : Jvm.Cond.code ({ cls := "WidowRoadsModel", name := "leaves", desc := "(II)I" } : Jvm.MethodName) prog_12_method_125_code (4 : Nat) (Option.some Jvm.ClassFile.FieldType.int) ∈ GW := GW_t 1851 (by decide +kernel) rfl
theorem w_1852 : Jvm.Cond.methodLink "WidowRoadsLaw" (205 : Nat) ({ cls := "WidowRoadsModel", name := "laws", desc := "(I)I" } : Jvm.MethodName) ∈ GW := GW_t 1852 (by decide +kernel) rfl
theorem w_1853 : Jvm.Cond.instanceMethod ({ cls := "WidowRoadsModel", name := "laws", desc := "(I)I" } : Jvm.MethodName) ∈ GW := GW_t 1853 (by decide +kernel) rfl
theorem w_1854 : Jvm.Cond.selects "WidowRoadsModel" ({ cls := "WidowRoadsModel", name := "laws", desc := "(I)I" } : Jvm.MethodName) ({ cls := "WidowRoadsModel", name := "laws", desc := "(I)I" } : Jvm.MethodName) ∈ GW := GW_t 1854 (by decide +kernel) rfl
theorem w_1855 : Jvm.Cond.code ({ cls := "WidowRoadsModel", name := "laws", desc := "(I)I" } : Jvm.MethodName) prog_12_method_126_code (4 : Nat) (Option.some Jvm.ClassFile.FieldType.int) ∈ GW := GW_t 1855 (by decide +kernel) rfl
theorem w_1856 : Jvm.Cond.methodLink "WidowRoadsLaw" (209 : Nat) ({ cls := "WidowRoadsModel", name := "by", desc := "(I)I" } : Jvm.MethodName) ∈ GW := GW_t 1856 (by decide +kernel) rfl
theorem w_1857 : Jvm.Cond.instanceMethod ({ cls := "WidowRoadsModel", name := "by", desc := "(I)I" } : Jvm.MethodName) ∈ GW := GW_t 1857 (by decide +kernel) rfl
theorem w_1858 : Jvm.Cond.selects "WidowRoadsModel" ({ cls := "WidowRoadsModel", name := "by", desc := "(I)I" } : Jvm.MethodName) ({ cls := "WidowRoadsModel", name := "by", desc := "(I)I" } : Jvm.MethodName) ∈ GW := GW_t 1858 (by decide +kernel) rfl
theorem w_1859 : Jvm.Cond.code ({ cls := "WidowRoadsModel", name := "by", desc := "(I)I" } : Jvm.MethodName) prog_12_method_128_code (2 : Nat) (Option.some Jvm.ClassFile.FieldType.int) ∈ GW := GW_t 1859 (by decide +kernel) rfl
theorem w_1864 : Jvm.Cond.methodLink "WidowRoadsLaw" (213 : Nat) ({ cls := "WidowRoadsModel", name := "law", desc := "()I" } : Jvm.MethodName) ∈ GW := GW_t 1864 (by decide +kernel) rfl
theorem w_1865 : Jvm.Cond.instanceMethod ({ cls := "WidowRoadsModel", name := "law", desc := "()I" } : Jvm.MethodName) ∈ GW := GW_t 1865 (by decide +kernel) rfl
theorem w_1866 : Jvm.Cond.selects "WidowRoadsModel" ({ cls := "WidowRoadsModel", name := "law", desc := "()I" } : Jvm.MethodName) ({ cls := "WidowRoadsModel", name := "law", desc := "()I" } : Jvm.MethodName) ∈ GW := GW_t 1866 (by decide +kernel) rfl
theorem w_1867 : Jvm.Cond.code ({ cls := "WidowRoadsModel", name := "law", desc := "()I" } : Jvm.MethodName) prog_12_method_129_code (3 : Nat) (Option.some Jvm.ClassFile.FieldType.int) ∈ GW := GW_t 1867 (by decide +kernel) rfl
theorem w_1868 : Jvm.Cond.methodLink "WidowRoadsLaw" (217 : Nat) ({ cls := "WidowRoadsModel", name := "worth", desc := "(I)I" } : Jvm.MethodName) ∈ GW := GW_t 1868 (by decide +kernel) rfl
theorem w_1869 : Jvm.Cond.instanceMethod ({ cls := "WidowRoadsModel", name := "worth", desc := "(I)I" } : Jvm.MethodName) ∈ GW := GW_t 1869 (by decide +kernel) rfl
theorem w_1870 : Jvm.Cond.selects "WidowRoadsModel" ({ cls := "WidowRoadsModel", name := "worth", desc := "(I)I" } : Jvm.MethodName) ({ cls := "WidowRoadsModel", name := "worth", desc := "(I)I" } : Jvm.MethodName) ∈ GW := GW_t 1870 (by decide +kernel) rfl
theorem w_1871 : Jvm.Cond.code ({ cls := "WidowRoadsModel", name := "worth", desc := "(I)I" } : Jvm.MethodName) prog_12_method_132_code (2 : Nat) (Option.some Jvm.ClassFile.FieldType.int) ∈ GW := GW_t 1871 (by decide +kernel) rfl
theorem w_1872 : Jvm.Cond.methodLink "WidowRoadsModel" (457 : Nat) ({ cls := "WidowRoadsModel", name := "beginSets", desc := "()V" } : Jvm.MethodName) ∈ GW := GW_t 1872 (by decide +kernel) rfl
theorem w_1874 : Jvm.Cond.instanceMethod ({ cls := "WidowRoadsModel", name := "beginSets", desc := "()V" } : Jvm.MethodName) ∈ GW := GW_t 1874 (by decide +kernel) rfl
theorem w_1875 : Jvm.Cond.code ({ cls := "WidowRoadsModel", name := "beginSets", desc := "()V" } : Jvm.MethodName) prog_12_method_131_code (1 : Nat) (Option.none : Option Jvm.ClassFile.FieldType) ∈ GW := GW_t 1875 (by decide +kernel) rfl
theorem w_1880 : Jvm.Cond.methodLink "WidowRoadsLaw" (221 : Nat) ({ cls := "WidowRoadsModel", name := "share", desc := "(II)I" } : Jvm.MethodName) ∈ GW := GW_t 1880 (by decide +kernel) rfl
theorem w_1881 : Jvm.Cond.instanceMethod ({ cls := "WidowRoadsModel", name := "share", desc := "(II)I" } : Jvm.MethodName) ∈ GW := GW_t 1881 (by decide +kernel) rfl
theorem w_1882 : Jvm.Cond.selects "WidowRoadsModel" ({ cls := "WidowRoadsModel", name := "share", desc := "(II)I" } : Jvm.MethodName) ({ cls := "WidowRoadsModel", name := "share", desc := "(II)I" } : Jvm.MethodName) ∈ GW := GW_t 1882 (by decide +kernel) rfl
theorem w_1883 : Jvm.Cond.code ({ cls := "WidowRoadsModel", name := "share", desc := "(II)I" } : Jvm.MethodName) prog_12_method_136_code (7 : Nat) (Option.some Jvm.ClassFile.FieldType.int) ∈ GW := GW_t 1883 (by decide +kernel) rfl
theorem w_1884 : Jvm.Cond.constant "WidowRoadsModel" (471 : Nat) (-1000000 : Int32) ∈ GW := GW_t 1884 (by decide +kernel) rfl
theorem w_1895 : Jvm.Cond.methodLink "WidowRoadsLaw" (225 : Nat) ({ cls := "WidowRoadsModel", name := "rests", desc := "(II)I" } : Jvm.MethodName) ∈ GW := GW_t 1895 (by decide +kernel) rfl
theorem w_1896 : Jvm.Cond.instanceMethod ({ cls := "WidowRoadsModel", name := "rests", desc := "(II)I" } : Jvm.MethodName) ∈ GW := GW_t 1896 (by decide +kernel) rfl
theorem w_1897 : Jvm.Cond.selects "WidowRoadsModel" ({ cls := "WidowRoadsModel", name := "rests", desc := "(II)I" } : Jvm.MethodName) ({ cls := "WidowRoadsModel", name := "rests", desc := "(II)I" } : Jvm.MethodName) ∈ GW := GW_t 1897 (by decide +kernel) rfl
theorem w_1898 : Jvm.Cond.code ({ cls := "WidowRoadsModel", name := "rests", desc := "(II)I" } : Jvm.MethodName) prog_12_method_139_code (8 : Nat) (Option.some Jvm.ClassFile.FieldType.int) ∈ GW := GW_t 1898 (by decide +kernel) rfl
theorem w_1899 : Jvm.Cond.methodLink "WidowRoadsModel" (479 : Nat) ({ cls := "WidowRoadsModel", name := "areTwo", desc := "(II)Z" } : Jvm.MethodName) ∈ GW := GW_t 1899 (by decide +kernel) rfl
theorem w_1901 : Jvm.Cond.instanceMethod ({ cls := "WidowRoadsModel", name := "areTwo", desc := "(II)Z" } : Jvm.MethodName) ∈ GW := GW_t 1901 (by decide +kernel) rfl
theorem w_1902 : Jvm.Cond.code ({ cls := "WidowRoadsModel", name := "areTwo", desc := "(II)Z" } : Jvm.MethodName) prog_12_method_138_code (3 : Nat) (Option.some Jvm.ClassFile.FieldType.boolean) ∈ GW := GW_t 1902 (by decide +kernel) rfl
theorem w_1907 : Jvm.Cond.methodLink "WidowRoadsLaw" (230 : Nat) ({ cls := "WidowRoadsModel", name := "gets", desc := "(IIII)I" } : Jvm.MethodName) ∈ GW := GW_t 1907 (by decide +kernel) rfl
theorem w_1908 : Jvm.Cond.instanceMethod ({ cls := "WidowRoadsModel", name := "gets", desc := "(IIII)I" } : Jvm.MethodName) ∈ GW := GW_t 1908 (by decide +kernel) rfl
theorem w_1909 : Jvm.Cond.selects "WidowRoadsModel" ({ cls := "WidowRoadsModel", name := "gets", desc := "(IIII)I" } : Jvm.MethodName) ({ cls := "WidowRoadsModel", name := "gets", desc := "(IIII)I" } : Jvm.MethodName) ∈ GW := GW_t 1909 (by decide +kernel) rfl
theorem w_1910 : Jvm.Cond.code ({ cls := "WidowRoadsModel", name := "gets", desc := "(IIII)I" } : Jvm.MethodName) prog_12_method_140_code (5 : Nat) (Option.some Jvm.ClassFile.FieldType.int) ∈ GW := GW_t 1910 (by decide +kernel) rfl
theorem w_1911 : Jvm.Cond.methodLink "WidowRoadsLaw" (235 : Nat) ({ cls := "WidowRoadsModel", name := "chance", desc := "(II)J" } : Jvm.MethodName) ∈ GW := GW_t 1911 (by decide +kernel) rfl
theorem w_1912 : Jvm.Cond.instanceMethod ({ cls := "WidowRoadsModel", name := "chance", desc := "(II)J" } : Jvm.MethodName) ∈ GW := GW_t 1912 (by decide +kernel) rfl
theorem w_1913 : Jvm.Cond.selects "WidowRoadsModel" ({ cls := "WidowRoadsModel", name := "chance", desc := "(II)J" } : Jvm.MethodName) ({ cls := "WidowRoadsModel", name := "chance", desc := "(II)J" } : Jvm.MethodName) ∈ GW := GW_t 1913 (by decide +kernel) rfl
theorem w_1914 : Jvm.Cond.code ({ cls := "WidowRoadsModel", name := "chance", desc := "(II)J" } : Jvm.MethodName) prog_12_method_142_code (3 : Nat) (Option.some Jvm.ClassFile.FieldType.long) ∈ GW := GW_t 1914 (by decide +kernel) rfl
theorem w_1915 : Jvm.Cond.constantLong "WidowRoadsModel" (496 : Nat) (-2 : Int64) ∈ GW := GW_t 1915 (by decide +kernel) rfl
theorem w_1920 : Jvm.Cond.methodLink "WidowRoadsLaw" (240 : Nat) ({ cls := "WidowRoadsModel", name := "mean", desc := "(I)J" } : Jvm.MethodName) ∈ GW := GW_t 1920 (by decide +kernel) rfl
theorem w_1921 : Jvm.Cond.instanceMethod ({ cls := "WidowRoadsModel", name := "mean", desc := "(I)J" } : Jvm.MethodName) ∈ GW := GW_t 1921 (by decide +kernel) rfl
theorem w_1922 : Jvm.Cond.selects "WidowRoadsModel" ({ cls := "WidowRoadsModel", name := "mean", desc := "(I)J" } : Jvm.MethodName) ({ cls := "WidowRoadsModel", name := "mean", desc := "(I)J" } : Jvm.MethodName) ∈ GW := GW_t 1922 (by decide +kernel) rfl
theorem w_1923 : Jvm.Cond.code ({ cls := "WidowRoadsModel", name := "mean", desc := "(I)J" } : Jvm.MethodName) prog_12_method_143_code (2 : Nat) (Option.some Jvm.ClassFile.FieldType.long) ∈ GW := GW_t 1923 (by decide +kernel) rfl
theorem w_1924 : Jvm.Cond.methodLink "WidowRoadsLaw" (244 : Nat) ({ cls := "WidowRoadsModel", name := "bridge", desc := "(I)I" } : Jvm.MethodName) ∈ GW := GW_t 1924 (by decide +kernel) rfl
theorem w_1925 : Jvm.Cond.instanceMethod ({ cls := "WidowRoadsModel", name := "bridge", desc := "(I)I" } : Jvm.MethodName) ∈ GW := GW_t 1925 (by decide +kernel) rfl
theorem w_1926 : Jvm.Cond.selects "WidowRoadsModel" ({ cls := "WidowRoadsModel", name := "bridge", desc := "(I)I" } : Jvm.MethodName) ({ cls := "WidowRoadsModel", name := "bridge", desc := "(I)I" } : Jvm.MethodName) ∈ GW := GW_t 1926 (by decide +kernel) rfl
theorem w_1927 : Jvm.Cond.code ({ cls := "WidowRoadsModel", name := "bridge", desc := "(I)I" } : Jvm.MethodName) prog_12_method_145_code (2 : Nat) (Option.some Jvm.ClassFile.FieldType.int) ∈ GW := GW_t 1927 (by decide +kernel) rfl
theorem w_1932 : Jvm.Cond.methodLink "WidowRoadsLaw" (248 : Nat) ({ cls := "WidowRoadsModel", name := "keeps", desc := "(I)I" } : Jvm.MethodName) ∈ GW := GW_t 1932 (by decide +kernel) rfl
theorem w_1933 : Jvm.Cond.instanceMethod ({ cls := "WidowRoadsModel", name := "keeps", desc := "(I)I" } : Jvm.MethodName) ∈ GW := GW_t 1933 (by decide +kernel) rfl
theorem w_1934 : Jvm.Cond.selects "WidowRoadsModel" ({ cls := "WidowRoadsModel", name := "keeps", desc := "(I)I" } : Jvm.MethodName) ({ cls := "WidowRoadsModel", name := "keeps", desc := "(I)I" } : Jvm.MethodName) ∈ GW := GW_t 1934 (by decide +kernel) rfl
theorem w_1935 : Jvm.Cond.code ({ cls := "WidowRoadsModel", name := "keeps", desc := "(I)I" } : Jvm.MethodName) prog_12_method_146_code (2 : Nat) (Option.some Jvm.ClassFile.FieldType.int) ∈ GW := GW_t 1935 (by decide +kernel) rfl
theorem w_1936 : Jvm.Cond.methodLink "WidowRoadsLaw" (252 : Nat) ({ cls := "WidowRoadsModel", name := "undo", desc := "()I" } : Jvm.MethodName) ∈ GW := GW_t 1936 (by decide +kernel) rfl
theorem w_1937 : Jvm.Cond.instanceMethod ({ cls := "WidowRoadsModel", name := "undo", desc := "()I" } : Jvm.MethodName) ∈ GW := GW_t 1937 (by decide +kernel) rfl
theorem w_1938 : Jvm.Cond.selects "WidowRoadsModel" ({ cls := "WidowRoadsModel", name := "undo", desc := "()I" } : Jvm.MethodName) ({ cls := "WidowRoadsModel", name := "undo", desc := "()I" } : Jvm.MethodName) ∈ GW := GW_t 1938 (by decide +kernel) rfl
theorem w_1939 : Jvm.Cond.code ({ cls := "WidowRoadsModel", name := "undo", desc := "()I" } : Jvm.MethodName) prog_12_method_147_code (1 : Nat) (Option.some Jvm.ClassFile.FieldType.int) ∈ GW := GW_t 1939 (by decide +kernel) rfl
theorem w_1940 : Jvm.Cond.methodLink "WidowRoadsLaw" (256 : Nat) ({ cls := "WidowRoadsModel", name := "anew", desc := "()I" } : Jvm.MethodName) ∈ GW := GW_t 1940 (by decide +kernel) rfl
theorem w_1941 : Jvm.Cond.instanceMethod ({ cls := "WidowRoadsModel", name := "anew", desc := "()I" } : Jvm.MethodName) ∈ GW := GW_t 1941 (by decide +kernel) rfl
theorem w_1942 : Jvm.Cond.selects "WidowRoadsModel" ({ cls := "WidowRoadsModel", name := "anew", desc := "()I" } : Jvm.MethodName) ({ cls := "WidowRoadsModel", name := "anew", desc := "()I" } : Jvm.MethodName) ∈ GW := GW_t 1942 (by decide +kernel) rfl
theorem w_1943 : Jvm.Cond.code ({ cls := "WidowRoadsModel", name := "anew", desc := "()I" } : Jvm.MethodName) prog_12_method_148_code (2 : Nat) (Option.some Jvm.ClassFile.FieldType.int) ∈ GW := GW_t 1943 (by decide +kernel) rfl
theorem w_1944 : Jvm.Cond.methodLink "WidowRoadsLaw" (260 : Nat) ({ cls := "WidowRoadsModel", name := "drawn", desc := "(II)I" } : Jvm.MethodName) ∈ GW := GW_t 1944 (by decide +kernel) rfl
theorem w_1945 : Jvm.Cond.instanceMethod ({ cls := "WidowRoadsModel", name := "drawn", desc := "(II)I" } : Jvm.MethodName) ∈ GW := GW_t 1945 (by decide +kernel) rfl
theorem w_1946 : Jvm.Cond.selects "WidowRoadsModel" ({ cls := "WidowRoadsModel", name := "drawn", desc := "(II)I" } : Jvm.MethodName) ({ cls := "WidowRoadsModel", name := "drawn", desc := "(II)I" } : Jvm.MethodName) ∈ GW := GW_t 1946 (by decide +kernel) rfl
theorem w_1947 : Jvm.Cond.code ({ cls := "WidowRoadsModel", name := "drawn", desc := "(II)I" } : Jvm.MethodName) prog_12_method_151_code (4 : Nat) (Option.some Jvm.ClassFile.FieldType.int) ∈ GW := GW_t 1947 (by decide +kernel) rfl
theorem w_1948 : Jvm.Cond.methodLink "WidowRoadsModel" (514 : Nat) ({ cls := "WidowRoadsModel", name := "isSeed", desc := "(I)Z" } : Jvm.MethodName) ∈ GW := GW_t 1948 (by decide +kernel) rfl
theorem w_1949 : Jvm.Cond.static ({ cls := "WidowRoadsModel", name := "isSeed", desc := "(I)Z" } : Jvm.MethodName) ∈ GW := GW_t 1949 (by decide +kernel) rfl
theorem w_1950 : Jvm.Cond.code ({ cls := "WidowRoadsModel", name := "isSeed", desc := "(I)Z" } : Jvm.MethodName) prog_12_method_150_code (1 : Nat) (Option.some Jvm.ClassFile.FieldType.boolean) ∈ GW := GW_t 1950 (by decide +kernel) rfl
theorem w_1951 : Jvm.Cond.constantLong "WidowRoadsModel" (512 : Nat) (2000000000 : Int64) ∈ GW := GW_t 1951 (by decide +kernel) rfl
theorem w_1960 : Jvm.Cond.methodLink "WidowRoadsLaw" (264 : Nat) ({ cls := "WidowRoadsModel", name := "luck", desc := "(III)I" } : Jvm.MethodName) ∈ GW := GW_t 1960 (by decide +kernel) rfl
theorem w_1961 : Jvm.Cond.instanceMethod ({ cls := "WidowRoadsModel", name := "luck", desc := "(III)I" } : Jvm.MethodName) ∈ GW := GW_t 1961 (by decide +kernel) rfl
theorem w_1962 : Jvm.Cond.selects "WidowRoadsModel" ({ cls := "WidowRoadsModel", name := "luck", desc := "(III)I" } : Jvm.MethodName) ({ cls := "WidowRoadsModel", name := "luck", desc := "(III)I" } : Jvm.MethodName) ∈ GW := GW_t 1962 (by decide +kernel) rfl
theorem w_1963 : Jvm.Cond.code ({ cls := "WidowRoadsModel", name := "luck", desc := "(III)I" } : Jvm.MethodName) prog_12_method_152_code (6 : Nat) (Option.some Jvm.ClassFile.FieldType.int) ∈ GW := GW_t 1963 (by decide +kernel) rfl
theorem w_1964 : Jvm.Cond.constantLong "WidowRoadsModel" (521 : Nat) (20 : Int64) ∈ GW := GW_t 1964 (by decide +kernel) rfl
theorem w_1965 : Jvm.Cond.methodLink "WidowRoadsLaw" (268 : Nat) ({ cls := "WidowRoadsModel", name := "rate", desc := "(II)I" } : Jvm.MethodName) ∈ GW := GW_t 1965 (by decide +kernel) rfl
theorem w_1966 : Jvm.Cond.instanceMethod ({ cls := "WidowRoadsModel", name := "rate", desc := "(II)I" } : Jvm.MethodName) ∈ GW := GW_t 1966 (by decide +kernel) rfl
theorem w_1967 : Jvm.Cond.selects "WidowRoadsModel" ({ cls := "WidowRoadsModel", name := "rate", desc := "(II)I" } : Jvm.MethodName) ({ cls := "WidowRoadsModel", name := "rate", desc := "(II)I" } : Jvm.MethodName) ∈ GW := GW_t 1967 (by decide +kernel) rfl
theorem w_1968 : Jvm.Cond.code ({ cls := "WidowRoadsModel", name := "rate", desc := "(II)I" } : Jvm.MethodName) prog_12_method_153_code (4 : Nat) (Option.some Jvm.ClassFile.FieldType.int) ∈ GW := GW_t 1968 (by decide +kernel) rfl
theorem w_1969 : Jvm.Cond.methodLink "WidowRoadsLaw" (272 : Nat) ({ cls := "WidowRoadsModel", name := "count", desc := "(I)I" } : Jvm.MethodName) ∈ GW := GW_t 1969 (by decide +kernel) rfl
theorem w_1970 : Jvm.Cond.instanceMethod ({ cls := "WidowRoadsModel", name := "count", desc := "(I)I" } : Jvm.MethodName) ∈ GW := GW_t 1970 (by decide +kernel) rfl
theorem w_1971 : Jvm.Cond.selects "WidowRoadsModel" ({ cls := "WidowRoadsModel", name := "count", desc := "(I)I" } : Jvm.MethodName) ({ cls := "WidowRoadsModel", name := "count", desc := "(I)I" } : Jvm.MethodName) ∈ GW := GW_t 1971 (by decide +kernel) rfl
theorem w_1972 : Jvm.Cond.code ({ cls := "WidowRoadsModel", name := "count", desc := "(I)I" } : Jvm.MethodName) prog_12_method_154_code (4 : Nat) (Option.some Jvm.ClassFile.FieldType.int) ∈ GW := GW_t 1972 (by decide +kernel) rfl
theorem w_1973 : Jvm.Cond.constantLong "WidowRoadsModel" (523 : Nat) (9 : Int64) ∈ GW := GW_t 1973 (by decide +kernel) rfl
theorem w_1974 : Jvm.Cond.methodLink "WidowRoadsLaw" (284 : Nat) ({ cls := "WidowRoadsModel", name := "row", desc := "(III)I" } : Jvm.MethodName) ∈ GW := GW_t 1974 (by decide +kernel) rfl
theorem w_1975 : Jvm.Cond.instanceMethod ({ cls := "WidowRoadsModel", name := "row", desc := "(III)I" } : Jvm.MethodName) ∈ GW := GW_t 1975 (by decide +kernel) rfl
theorem w_1976 : Jvm.Cond.selects "WidowRoadsModel" ({ cls := "WidowRoadsModel", name := "row", desc := "(III)I" } : Jvm.MethodName) ({ cls := "WidowRoadsModel", name := "row", desc := "(III)I" } : Jvm.MethodName) ∈ GW := GW_t 1976 (by decide +kernel) rfl
theorem w_1977 : Jvm.Cond.code ({ cls := "WidowRoadsModel", name := "row", desc := "(III)I" } : Jvm.MethodName) prog_12_method_157_code (5 : Nat) (Option.some Jvm.ClassFile.FieldType.int) ∈ GW := GW_t 1977 (by decide +kernel) rfl
theorem w_1978 : Jvm.Cond.methodLink "WidowRoadsLaw" (291 : Nat) ({ cls := "WidowRoadsModel", name := "write", desc := "(IIJ)I" } : Jvm.MethodName) ∈ GW := GW_t 1978 (by decide +kernel) rfl
theorem w_1979 : Jvm.Cond.instanceMethod ({ cls := "WidowRoadsModel", name := "write", desc := "(IIJ)I" } : Jvm.MethodName) ∈ GW := GW_t 1979 (by decide +kernel) rfl
theorem w_1980 : Jvm.Cond.selects "WidowRoadsModel" ({ cls := "WidowRoadsModel", name := "write", desc := "(IIJ)I" } : Jvm.MethodName) ({ cls := "WidowRoadsModel", name := "write", desc := "(IIJ)I" } : Jvm.MethodName) ∈ GW := GW_t 1980 (by decide +kernel) rfl
theorem w_1981 : Jvm.Cond.code ({ cls := "WidowRoadsModel", name := "write", desc := "(IIJ)I" } : Jvm.MethodName) prog_12_method_158_code (5 : Nat) (Option.some Jvm.ClassFile.FieldType.int) ∈ GW := GW_t 1981 (by decide +kernel) rfl
theorem w_1985 : Jvm.Cond.methodLink "WidowRoadsLaw" (295 : Nat) ({ cls := "WidowRoadsModel", name := "paste", desc := "(IIIII)I" } : Jvm.MethodName) ∈ GW := GW_t 1985 (by decide +kernel) rfl
theorem w_1986 : Jvm.Cond.instanceMethod ({ cls := "WidowRoadsModel", name := "paste", desc := "(IIIII)I" } : Jvm.MethodName) ∈ GW := GW_t 1986 (by decide +kernel) rfl
theorem w_1987 : Jvm.Cond.selects "WidowRoadsModel" ({ cls := "WidowRoadsModel", name := "paste", desc := "(IIIII)I" } : Jvm.MethodName) ({ cls := "WidowRoadsModel", name := "paste", desc := "(IIIII)I" } : Jvm.MethodName) ∈ GW := GW_t 1987 (by decide +kernel) rfl
theorem w_1988 : Jvm.Cond.code ({ cls := "WidowRoadsModel", name := "paste", desc := "(IIIII)I" } : Jvm.MethodName) prog_12_method_159_code (7 : Nat) (Option.some Jvm.ClassFile.FieldType.int) ∈ GW := GW_t 1988 (by decide +kernel) rfl
theorem w_1989 : Jvm.Cond.constantLong "WidowRoadsLaw" (285 : Nat) (4294967295 : Int64) ∈ GW := GW_t 1989 (by decide +kernel) rfl
theorem iG_X0 : ∀ w ∈ wsX00, w ∈ GW := GW_in [123, 125, 127, 129, 131, 133, 135, 137, 139, 141, 143, 145, 147, 149, 151, 153, 155, 157, 159] (by decide +kernel) (by decide +kernel)
theorem iG_X1 : ∀ w ∈ wsX10, w ∈ GW := GW_in [293, 295, 297] (by decide +kernel) (by decide +kernel)
theorem iG_X10 : ∀ w ∈ wsX100, w ∈ GW := GW_in [1238, 1240, 1242, 1244, 1246, 1248, 1250, 1252, 1254, 1256, 1258, 1260, 1262, 1264, 1266, 1268, 1270, 1272, 1274, 1276, 1278, 1280, 1282, 1284, 1286, 1288, 1290, 1292, 1294, 1296, 1298, 1300, 1302, 1304, 1306, 1308, 1310, 1312, 1314, 1316, 1318, 1320, 1322, 1324, 1326, 1328] (by decide +kernel) (by decide +kernel)
theorem iG_X2 : ∀ w ∈ wsX20, w ∈ GW := GW_in [346, 348] (by decide +kernel) (by decide +kernel)
theorem iG_X3 : ∀ w ∈ wsX30, w ∈ GW := GW_in [309, 311, 313] (by decide +kernel) (by decide +kernel)
theorem iG_X4 : ∀ w ∈ wsX40, w ∈ GW := GW_in [174, 176, 178, 180, 182, 184, 186] (by decide +kernel) (by decide +kernel)
theorem iG_X5 : ∀ w ∈ wsX50, w ∈ GW := GW_in [328, 330, 332, 334] (by decide +kernel) (by decide +kernel)
theorem iG_X6 : ∀ w ∈ wsX60, w ∈ GW := GW_in [256, 258, 260, 262, 264, 266, 268, 270, 272, 274, 276, 278] (by decide +kernel) (by decide +kernel)
theorem iG_X7 : ∀ w ∈ wsX70, w ∈ GW := GW_in [214, 216, 218, 220, 222, 224] (by decide +kernel) (by decide +kernel)
theorem iG_X8 : ∀ w ∈ wsX80, w ∈ GW := GW_in [43, 45] (by decide +kernel) (by decide +kernel)
theorem iG_X9 : ∀ w ∈ wsX90, w ∈ GW := GW_in [362, 364, 366, 368, 370, 372, 374, 376, 378, 380, 382] (by decide +kernel) (by decide +kernel)
theorem nw_30 : Jvm.Cond.methodLinkNest "WidowRoads" (11 : Nat) ({ cls := "WidowRoads$Reader", name := "<init>", desc := "()V" } : Jvm.MethodName) "WidowRoads" ∈ tables_1 := List.mem_of_getElem? (i := 30) (by decide +kernel)
theorem nw_36 : Jvm.Cond.methodLinkNest "WidowRoads$Reader" (17 : Nat) ({ cls := "WidowRoads$Tape", name := "<init>", desc := "()V" } : Jvm.MethodName) "WidowRoads" ∈ tables_1 := List.mem_of_getElem? (i := 36) (by decide +kernel)
theorem nw_41 : Jvm.Cond.fieldLinkNest "WidowRoads" (80 : Nat) "WidowRoads$Tape" "length" "I" "WidowRoads" ∈ tables_1 := List.mem_of_getElem? (i := 41) (by decide +kernel)
theorem nw_51 : Jvm.Cond.methodLinkNest "WidowRoads$Reader" (24 : Nat) ({ cls := "WidowRoads$Colony", name := "<init>", desc := "()V" } : Jvm.MethodName) "WidowRoads" ∈ tables_1 := List.mem_of_getElem? (i := 51) (by decide +kernel)
theorem nw_57 : Jvm.Cond.fieldLinkNest "WidowRoads" (106 : Nat) "WidowRoads$Colony" "lines" "I" "WidowRoads" ∈ tables_1 := List.mem_of_getElem? (i := 57) (by decide +kernel)
theorem nw_59 : Jvm.Cond.fieldLinkNest "WidowRoads$Story" (47 : Nat) "WidowRoads$Colony" "span" "I" "WidowRoads" ∈ tables_1 := List.mem_of_getElem? (i := 59) (by decide +kernel)
theorem nw_62 : Jvm.Cond.fieldLinkNest "WidowRoads" (186 : Nat) "WidowRoads$Colony" "span" "I" "WidowRoads" ∈ tables_1 := List.mem_of_getElem? (i := 62) (by decide +kernel)
theorem nw_63 : Jvm.Cond.fieldLinkNest "WidowRoads$Supposal" (9 : Nat) "WidowRoads$Colony" "rule" "I" "WidowRoads" ∈ tables_1 := List.mem_of_getElem? (i := 63) (by decide +kernel)
theorem nw_66 : Jvm.Cond.fieldLinkNest "WidowRoads" (373 : Nat) "WidowRoads$Colony" "rule" "I" "WidowRoads" ∈ tables_1 := List.mem_of_getElem? (i := 66) (by decide +kernel)
theorem nw_70 : Jvm.Cond.fieldLinkNest "WidowRoads" (376 : Nat) "WidowRoads$Colony" "odds" "I" "WidowRoads" ∈ tables_1 := List.mem_of_getElem? (i := 70) (by decide +kernel)
theorem nw_73 : Jvm.Cond.fieldLinkNest "WidowRoads" (379 : Nat) "WidowRoads$Colony" "wide" "I" "WidowRoads" ∈ tables_1 := List.mem_of_getElem? (i := 73) (by decide +kernel)
theorem nw_76 : Jvm.Cond.fieldLinkNest "WidowRoads" (382 : Nat) "WidowRoads$Colony" "high" "I" "WidowRoads" ∈ tables_1 := List.mem_of_getElem? (i := 76) (by decide +kernel)
theorem nw_79 : Jvm.Cond.fieldLinkNest "WidowRoads" (281 : Nat) "WidowRoads$Colony" "creeks" "I" "WidowRoads" ∈ tables_1 := List.mem_of_getElem? (i := 79) (by decide +kernel)
theorem nw_81 : Jvm.Cond.fieldLinkNest "WidowRoads$Story" (83 : Nat) "WidowRoads$Colony" "houses" "I" "WidowRoads" ∈ tables_1 := List.mem_of_getElem? (i := 81) (by decide +kernel)
theorem nw_83 : Jvm.Cond.fieldLinkNest "WidowRoads" (259 : Nat) "WidowRoads$Colony" "houses" "I" "WidowRoads" ∈ tables_1 := List.mem_of_getElem? (i := 83) (by decide +kernel)
theorem nw_88 : Jvm.Cond.fieldLinkNest "WidowRoads" (189 : Nat) "WidowRoads$Colony" "widows" "I" "WidowRoads" ∈ tables_1 := List.mem_of_getElem? (i := 88) (by decide +kernel)
theorem nw_90 : Jvm.Cond.fieldLinkNest "WidowRoads" (361 : Nat) "WidowRoads$Colony" "acts" "I" "WidowRoads" ∈ tables_1 := List.mem_of_getElem? (i := 90) (by decide +kernel)
theorem nw_164 : Jvm.Cond.fieldLinkNest "WidowRoads" (93 : Nat) "WidowRoads$Reader" "fault" "I" "WidowRoads" ∈ tables_1 := List.mem_of_getElem? (i := 164) (by decide +kernel)
theorem nw_166 : Jvm.Cond.fieldLinkNest "WidowRoads" (109 : Nat) "WidowRoads$Reader" "place" "I" "WidowRoads" ∈ tables_1 := List.mem_of_getElem? (i := 166) (by decide +kernel)
theorem nw_168 : Jvm.Cond.fieldLinkNest "WidowRoads" (76 : Nat) "WidowRoads$Reader" "tape" "LWidowRoads$Tape;" "WidowRoads" ∈ tables_1 := List.mem_of_getElem? (i := 168) (by decide +kernel)
theorem nw_170 : Jvm.Cond.fieldLinkNest "WidowRoads" (96 : Nat) "WidowRoads$Reader" "into" "LWidowRoads$Colony;" "WidowRoads" ∈ tables_1 := List.mem_of_getElem? (i := 170) (by decide +kernel)
theorem nw_190 : Jvm.Cond.methodLinkNest "WidowRoads" (18 : Nat) ({ cls := "WidowRoads$Colony", name := "<init>", desc := "()V" } : Jvm.MethodName) "WidowRoads" ∈ tables_1 := List.mem_of_getElem? (i := 190) (by decide +kernel)
theorem nw_194 : Jvm.Cond.methodLinkNest "WidowRoads" (29 : Nat) ({ cls := "WidowRoads$Supposal", name := "<init>", desc := "()V" } : Jvm.MethodName) "WidowRoads" ∈ tables_1 := List.mem_of_getElem? (i := 194) (by decide +kernel)
theorem nw_229 : Jvm.Cond.methodLinkNest "WidowRoads" (36 : Nat) ({ cls := "WidowRoads$Story", name := "<init>", desc := "()V" } : Jvm.MethodName) "WidowRoads" ∈ tables_1 := List.mem_of_getElem? (i := 229) (by decide +kernel)
theorem nw_284 : Jvm.Cond.methodLinkNest "WidowRoads" (46 : Nat) ({ cls := "WidowRoads$Evenings", name := "<init>", desc := "()V" } : Jvm.MethodName) "WidowRoads" ∈ tables_1 := List.mem_of_getElem? (i := 284) (by decide +kernel)
theorem nw_292 : Jvm.Cond.fieldLinkNest "WidowRoads" (415 : Nat) "WidowRoads$Evenings" "known" "Z" "WidowRoads" ∈ tables_1 := List.mem_of_getElem? (i := 292) (by decide +kernel)
theorem nw_302 : Jvm.Cond.methodLinkNest "WidowRoads" (53 : Nat) ({ cls := "WidowRoads$Net", name := "<init>", desc := "()V" } : Jvm.MethodName) "WidowRoads" ∈ tables_1 := List.mem_of_getElem? (i := 302) (by decide +kernel)
theorem nw_318 : Jvm.Cond.methodLinkNest "WidowRoads" (60 : Nat) ({ cls := "WidowRoads$Rows", name := "<init>", desc := "()V" } : Jvm.MethodName) "WidowRoads" ∈ tables_1 := List.mem_of_getElem? (i := 318) (by decide +kernel)
theorem nw_340 : Jvm.Cond.methodLinkNest "WidowRoads" (67 : Nat) ({ cls := "WidowRoads$Fraction", name := "<init>", desc := "()V" } : Jvm.MethodName) "WidowRoads" ∈ tables_1 := List.mem_of_getElem? (i := 340) (by decide +kernel)
theorem nw_389 : Jvm.Cond.methodLinkNest "WidowRoads" (86 : Nat) ({ cls := "WidowRoads$Tape", name := "put", desc := "(I)V" } : Jvm.MethodName) "WidowRoads" ∈ tables_1 := List.mem_of_getElem? (i := 389) (by decide +kernel)
theorem nw_401 : Jvm.Cond.methodLinkNest "WidowRoads" (90 : Nat) ({ cls := "WidowRoads$Reader", name := "read", desc := "()V" } : Jvm.MethodName) "WidowRoads" ∈ tables_1 := List.mem_of_getElem? (i := 401) (by decide +kernel)
theorem nw_405 : Jvm.Cond.methodLinkNest "WidowRoads$Reader" (29 : Nat) ({ cls := "WidowRoads$Colony", name := "clear", desc := "()V" } : Jvm.MethodName) "WidowRoads" ∈ tables_1 := List.mem_of_getElem? (i := 405) (by decide +kernel)
theorem nw_413 : Jvm.Cond.methodLinkNest "WidowRoads$Reader" (79 : Nat) ({ cls := "WidowRoads$Tape", name := "byteAt", desc := "(I)I" } : Jvm.MethodName) "WidowRoads" ∈ tables_1 := List.mem_of_getElem? (i := 413) (by decide +kernel)
theorem nw_562 : Jvm.Cond.methodLinkNest "WidowRoads" (99 : Nat) ({ cls := "WidowRoads$Colony", name := "become", desc := "(LWidowRoads$Colony;)V" } : Jvm.MethodName) "WidowRoads" ∈ tables_1 := List.mem_of_getElem? (i := 562) (by decide +kernel)
theorem nw_573 : Jvm.Cond.methodLinkNest "WidowRoads" (271 : Nat) ({ cls := "WidowRoads$Supposal", name := "asNow", desc := "(LWidowRoads$Colony;)V" } : Jvm.MethodName) "WidowRoads" ∈ tables_1 := List.mem_of_getElem? (i := 573) (by decide +kernel)
theorem nw_577 : Jvm.Cond.methodLinkNest "WidowRoads$Supposal" (18 : Nat) ({ cls := "WidowRoads$Colony", name := "walkerBits", desc := "()I" } : Jvm.MethodName) "WidowRoads" ∈ tables_1 := List.mem_of_getElem? (i := 577) (by decide +kernel)
theorem nw_581 : Jvm.Cond.methodLinkNest "WidowRoads$Supposal" (25 : Nat) ({ cls := "WidowRoads$Colony", name := "creekBits", desc := "()J" } : Jvm.MethodName) "WidowRoads" ∈ tables_1 := List.mem_of_getElem? (i := 581) (by decide +kernel)
theorem nw_582 : Jvm.Cond.methodLinkNest "WidowRoads" (277 : Nat) ({ cls := "WidowRoads$Story", name := "tell", desc := "(LWidowRoads$Colony;LWidowRoads$Supposal;)V" } : Jvm.MethodName) "WidowRoads" ∈ tables_1 := List.mem_of_getElem? (i := 582) (by decide +kernel)
theorem nw_590 : Jvm.Cond.methodLinkNest "WidowRoads$Story" (76 : Nat) ({ cls := "WidowRoads$Colony", name := "field", desc := "()J" } : Jvm.MethodName) "WidowRoads" ∈ tables_1 := List.mem_of_getElem? (i := 590) (by decide +kernel)
theorem nw_653 : Jvm.Cond.methodLinkNest "WidowRoads" (112 : Nat) ({ cls := "WidowRoads$Colony", name := "spotOf", desc := "(J)I" } : Jvm.MethodName) "WidowRoads" ∈ tables_1 := List.mem_of_getElem? (i := 653) (by decide +kernel)
theorem nw_668 : Jvm.Cond.methodLinkNest "WidowRoads" (128 : Nat) ({ cls := "WidowRoads$Colony", name := "hasWidow", desc := "(J)Z" } : Jvm.MethodName) "WidowRoads" ∈ tables_1 := List.mem_of_getElem? (i := 668) (by decide +kernel)
theorem nw_724 : Jvm.Cond.methodLinkNest "WidowRoads" (183 : Nat) ({ cls := "WidowRoads$Colony", name := "hasYear", desc := "(I)Z" } : Jvm.MethodName) "WidowRoads" ∈ tables_1 := List.mem_of_getElem? (i := 724) (by decide +kernel)
theorem nw_890 : Jvm.Cond.methodLinkNest "WidowRoads" (247 : Nat) ({ cls := "WidowRoads$Colony", name := "hasHouse", desc := "(I)Z" } : Jvm.MethodName) "WidowRoads" ∈ tables_1 := List.mem_of_getElem? (i := 890) (by decide +kernel)
theorem nw_954 : Jvm.Cond.methodLinkNest "WidowRoads" (395 : Nat) ({ cls := "WidowRoads$Rows", name := "empty", desc := "(I)Z" } : Jvm.MethodName) "WidowRoads" ∈ tables_1 := List.mem_of_getElem? (i := 954) (by decide +kernel)
theorem nw_1142 : Jvm.Cond.methodLinkNest "WidowRoads" (385 : Nat) ({ cls := "WidowRoads$Rows", name := "many", desc := "()I" } : Jvm.MethodName) "WidowRoads" ∈ tables_1 := List.mem_of_getElem? (i := 1142) (by decide +kernel)
theorem nw_1146 : Jvm.Cond.methodLinkNest "WidowRoads$Rows" (26 : Nat) ({ cls := "WidowRoads", name := "oneIf", desc := "(Z)I" } : Jvm.MethodName) "WidowRoads" ∈ tables_1 := List.mem_of_getElem? (i := 1146) (by decide +kernel)
theorem nw_1159 : Jvm.Cond.methodLinkNest "WidowRoads" (391 : Nat) ({ cls := "WidowRoads$Rows", name := "clear", desc := "(III)V" } : Jvm.MethodName) "WidowRoads" ∈ tables_1 := List.mem_of_getElem? (i := 1159) (by decide +kernel)
theorem hd_X0_become : yX0_become.cls ≠ "java/lang/invoke/MethodHandle" ∧ yX0_become.cls ≠ "java/lang/invoke/VarHandle" ∧ (parseMethodDescriptor yX0_become.desc).map (fun d => d.parameters.length) = some 1 := by decide +kernel
theorem hd_X0_clear : yX0_clear.cls ≠ "java/lang/invoke/MethodHandle" ∧ yX0_clear.cls ≠ "java/lang/invoke/VarHandle" ∧ (parseMethodDescriptor yX0_clear.desc).map (fun d => d.parameters.length) = some 0 := by decide +kernel
theorem hd_X0_creekBits : yX0_creekBits.cls ≠ "java/lang/invoke/MethodHandle" ∧ yX0_creekBits.cls ≠ "java/lang/invoke/VarHandle" ∧ (parseMethodDescriptor yX0_creekBits.desc).map (fun d => d.parameters.length) = some 0 := by decide +kernel
theorem hd_X0_field : yX0_field.cls ≠ "java/lang/invoke/MethodHandle" ∧ yX0_field.cls ≠ "java/lang/invoke/VarHandle" ∧ (parseMethodDescriptor yX0_field.desc).map (fun d => d.parameters.length) = some 0 := by decide +kernel
theorem hd_X0_hasHouse : yX0_hasHouse.cls ≠ "java/lang/invoke/MethodHandle" ∧ yX0_hasHouse.cls ≠ "java/lang/invoke/VarHandle" ∧ (parseMethodDescriptor yX0_hasHouse.desc).map (fun d => d.parameters.length) = some 1 := by decide +kernel
theorem hd_X0_hasWidow : yX0_hasWidow.cls ≠ "java/lang/invoke/MethodHandle" ∧ yX0_hasWidow.cls ≠ "java/lang/invoke/VarHandle" ∧ (parseMethodDescriptor yX0_hasWidow.desc).map (fun d => d.parameters.length) = some 1 := by decide +kernel
theorem hd_X0_hasYear : yX0_hasYear.cls ≠ "java/lang/invoke/MethodHandle" ∧ yX0_hasYear.cls ≠ "java/lang/invoke/VarHandle" ∧ (parseMethodDescriptor yX0_hasYear.desc).map (fun d => d.parameters.length) = some 1 := by decide +kernel
theorem hd_X0_init : yX0_init.cls ≠ "java/lang/invoke/MethodHandle" ∧ yX0_init.cls ≠ "java/lang/invoke/VarHandle" ∧ (parseMethodDescriptor yX0_init.desc).map (fun d => d.parameters.length) = some 0 := by decide +kernel
theorem hd_X0_spotOf : yX0_spotOf.cls ≠ "java/lang/invoke/MethodHandle" ∧ yX0_spotOf.cls ≠ "java/lang/invoke/VarHandle" ∧ (parseMethodDescriptor yX0_spotOf.desc).map (fun d => d.parameters.length) = some 1 := by decide +kernel
theorem hd_X0_walkerBits : yX0_walkerBits.cls ≠ "java/lang/invoke/MethodHandle" ∧ yX0_walkerBits.cls ≠ "java/lang/invoke/VarHandle" ∧ (parseMethodDescriptor yX0_walkerBits.desc).map (fun d => d.parameters.length) = some 0 := by decide +kernel
theorem hd_X10_advance : yX10_advance.cls ≠ "java/lang/invoke/MethodHandle" ∧ yX10_advance.cls ≠ "java/lang/invoke/VarHandle" ∧ (parseMethodDescriptor yX10_advance.desc).map (fun d => d.parameters.length) = some 0 := by decide +kernel
theorem hd_X10_allWidows : yX10_allWidows.cls ≠ "java/lang/invoke/MethodHandle" ∧ yX10_allWidows.cls ≠ "java/lang/invoke/VarHandle" ∧ (parseMethodDescriptor yX10_allWidows.desc).map (fun d => d.parameters.length) = some 0 := by decide +kernel
theorem hd_X10_anew : yX10_anew.cls ≠ "java/lang/invoke/MethodHandle" ∧ yX10_anew.cls ≠ "java/lang/invoke/VarHandle" ∧ (parseMethodDescriptor yX10_anew.desc).map (fun d => d.parameters.length) = some 0 := by decide +kernel
theorem hd_X10_areTwo : yX10_areTwo.cls ≠ "java/lang/invoke/MethodHandle" ∧ yX10_areTwo.cls ≠ "java/lang/invoke/VarHandle" ∧ (parseMethodDescriptor yX10_areTwo.desc).map (fun d => d.parameters.length) = some 2 := by decide +kernel
theorem hd_X10_asItIs : yX10_asItIs.cls ≠ "java/lang/invoke/MethodHandle" ∧ yX10_asItIs.cls ≠ "java/lang/invoke/VarHandle" ∧ (parseMethodDescriptor yX10_asItIs.desc).map (fun d => d.parameters.length) = some 0 := by decide +kernel
theorem hd_X10_ask : yX10_ask.cls ≠ "java/lang/invoke/MethodHandle" ∧ yX10_ask.cls ≠ "java/lang/invoke/VarHandle" ∧ (parseMethodDescriptor yX10_ask.desc).map (fun d => d.parameters.length) = some 2 := by decide +kernel
theorem hd_X10_askSeen : yX10_askSeen.cls ≠ "java/lang/invoke/MethodHandle" ∧ yX10_askSeen.cls ≠ "java/lang/invoke/VarHandle" ∧ (parseMethodDescriptor yX10_askSeen.desc).map (fun d => d.parameters.length) = some 1 := by decide +kernel
theorem hd_X10_askSeen_ : yX10_askSeen_.cls ≠ "java/lang/invoke/MethodHandle" ∧ yX10_askSeen_.cls ≠ "java/lang/invoke/VarHandle" ∧ (parseMethodDescriptor yX10_askSeen_.desc).map (fun d => d.parameters.length) = some 2 := by decide +kernel
theorem hd_X10_asksCell : yX10_asksCell.cls ≠ "java/lang/invoke/MethodHandle" ∧ yX10_asksCell.cls ≠ "java/lang/invoke/VarHandle" ∧ (parseMethodDescriptor yX10_asksCell.desc).map (fun d => d.parameters.length) = some 1 := by decide +kernel
theorem hd_X10_asksColony : yX10_asksColony.cls ≠ "java/lang/invoke/MethodHandle" ∧ yX10_asksColony.cls ≠ "java/lang/invoke/VarHandle" ∧ (parseMethodDescriptor yX10_asksColony.desc).map (fun d => d.parameters.length) = some 0 := by decide +kernel
theorem hd_X10_asksWidow : yX10_asksWidow.cls ≠ "java/lang/invoke/MethodHandle" ∧ yX10_asksWidow.cls ≠ "java/lang/invoke/VarHandle" ∧ (parseMethodDescriptor yX10_asksWidow.desc).map (fun d => d.parameters.length) = some 1 := by decide +kernel
theorem hd_X10_asksYear : yX10_asksYear.cls ≠ "java/lang/invoke/MethodHandle" ∧ yX10_asksYear.cls ≠ "java/lang/invoke/VarHandle" ∧ (parseMethodDescriptor yX10_asksYear.desc).map (fun d => d.parameters.length) = some 1 := by decide +kernel
theorem hd_X10_at : yX10_at.cls ≠ "java/lang/invoke/MethodHandle" ∧ yX10_at.cls ≠ "java/lang/invoke/VarHandle" ∧ (parseMethodDescriptor yX10_at.desc).map (fun d => d.parameters.length) = some 2 := by decide +kernel
theorem hd_X10_back : yX10_back.cls ≠ "java/lang/invoke/MethodHandle" ∧ yX10_back.cls ≠ "java/lang/invoke/VarHandle" ∧ (parseMethodDescriptor yX10_back.desc).map (fun d => d.parameters.length) = some 1 := by decide +kernel
theorem hd_X10_beeline : yX10_beeline.cls ≠ "java/lang/invoke/MethodHandle" ∧ yX10_beeline.cls ≠ "java/lang/invoke/VarHandle" ∧ (parseMethodDescriptor yX10_beeline.desc).map (fun d => d.parameters.length) = some 2 := by decide +kernel
theorem hd_X10_beginSets : yX10_beginSets.cls ≠ "java/lang/invoke/MethodHandle" ∧ yX10_beginSets.cls ≠ "java/lang/invoke/VarHandle" ∧ (parseMethodDescriptor yX10_beginSets.desc).map (fun d => d.parameters.length) = some 0 := by decide +kernel
theorem hd_X10_blame : yX10_blame.cls ≠ "java/lang/invoke/MethodHandle" ∧ yX10_blame.cls ≠ "java/lang/invoke/VarHandle" ∧ (parseMethodDescriptor yX10_blame.desc).map (fun d => d.parameters.length) = some 0 := by decide +kernel
theorem hd_X10_bridge : yX10_bridge.cls ≠ "java/lang/invoke/MethodHandle" ∧ yX10_bridge.cls ≠ "java/lang/invoke/VarHandle" ∧ (parseMethodDescriptor yX10_bridge.desc).map (fun d => d.parameters.length) = some 1 := by decide +kernel
theorem hd_X10_bridges : yX10_bridges.cls ≠ "java/lang/invoke/MethodHandle" ∧ yX10_bridges.cls ≠ "java/lang/invoke/VarHandle" ∧ (parseMethodDescriptor yX10_bridges.desc).map (fun d => d.parameters.length) = some 1 := by decide +kernel
theorem hd_X10_by : yX10_by.cls ≠ "java/lang/invoke/MethodHandle" ∧ yX10_by.cls ≠ "java/lang/invoke/VarHandle" ∧ (parseMethodDescriptor yX10_by.desc).map (fun d => d.parameters.length) = some 1 := by decide +kernel
theorem hd_X10_chance : yX10_chance.cls ≠ "java/lang/invoke/MethodHandle" ∧ yX10_chance.cls ≠ "java/lang/invoke/VarHandle" ∧ (parseMethodDescriptor yX10_chance.desc).map (fun d => d.parameters.length) = some 2 := by decide +kernel
theorem hd_X10_colony : yX10_colony.cls ≠ "java/lang/invoke/MethodHandle" ∧ yX10_colony.cls ≠ "java/lang/invoke/VarHandle" ∧ (parseMethodDescriptor yX10_colony.desc).map (fun d => d.parameters.length) = some 0 := by decide +kernel
theorem hd_X10_corners : yX10_corners.cls ≠ "java/lang/invoke/MethodHandle" ∧ yX10_corners.cls ≠ "java/lang/invoke/VarHandle" ∧ (parseMethodDescriptor yX10_corners.desc).map (fun d => d.parameters.length) = some 2 := by decide +kernel
theorem hd_X10_count : yX10_count.cls ≠ "java/lang/invoke/MethodHandle" ∧ yX10_count.cls ≠ "java/lang/invoke/VarHandle" ∧ (parseMethodDescriptor yX10_count.desc).map (fun d => d.parameters.length) = some 1 := by decide +kernel
theorem hd_X10_cover : yX10_cover.cls ≠ "java/lang/invoke/MethodHandle" ∧ yX10_cover.cls ≠ "java/lang/invoke/VarHandle" ∧ (parseMethodDescriptor yX10_cover.desc).map (fun d => d.parameters.length) = some 0 := by decide +kernel
theorem hd_X10_covers : yX10_covers.cls ≠ "java/lang/invoke/MethodHandle" ∧ yX10_covers.cls ≠ "java/lang/invoke/VarHandle" ∧ (parseMethodDescriptor yX10_covers.desc).map (fun d => d.parameters.length) = some 0 := by decide +kernel
theorem hd_X10_creek : yX10_creek.cls ≠ "java/lang/invoke/MethodHandle" ∧ yX10_creek.cls ≠ "java/lang/invoke/VarHandle" ∧ (parseMethodDescriptor yX10_creek.desc).map (fun d => d.parameters.length) = some 1 := by decide +kernel
theorem hd_X10_crossing : yX10_crossing.cls ≠ "java/lang/invoke/MethodHandle" ∧ yX10_crossing.cls ≠ "java/lang/invoke/VarHandle" ∧ (parseMethodDescriptor yX10_crossing.desc).map (fun d => d.parameters.length) = some 0 := by decide +kernel
theorem hd_X10_drawn : yX10_drawn.cls ≠ "java/lang/invoke/MethodHandle" ∧ yX10_drawn.cls ≠ "java/lang/invoke/VarHandle" ∧ (parseMethodDescriptor yX10_drawn.desc).map (fun d => d.parameters.length) = some 2 := by decide +kernel
theorem hd_X10_end : yX10_end.cls ≠ "java/lang/invoke/MethodHandle" ∧ yX10_end.cls ≠ "java/lang/invoke/VarHandle" ∧ (parseMethodDescriptor yX10_end.desc).map (fun d => d.parameters.length) = some 1 := by decide +kernel
theorem hd_X10_evening : yX10_evening.cls ≠ "java/lang/invoke/MethodHandle" ∧ yX10_evening.cls ≠ "java/lang/invoke/VarHandle" ∧ (parseMethodDescriptor yX10_evening.desc).map (fun d => d.parameters.length) = some 1 := by decide +kernel
theorem hd_X10_faced : yX10_faced.cls ≠ "java/lang/invoke/MethodHandle" ∧ yX10_faced.cls ≠ "java/lang/invoke/VarHandle" ∧ (parseMethodDescriptor yX10_faced.desc).map (fun d => d.parameters.length) = some 2 := by decide +kernel
theorem hd_X10_farthest : yX10_farthest.cls ≠ "java/lang/invoke/MethodHandle" ∧ yX10_farthest.cls ≠ "java/lang/invoke/VarHandle" ∧ (parseMethodDescriptor yX10_farthest.desc).map (fun d => d.parameters.length) = some 2 := by decide +kernel
theorem hd_X10_fault : yX10_fault.cls ≠ "java/lang/invoke/MethodHandle" ∧ yX10_fault.cls ≠ "java/lang/invoke/VarHandle" ∧ (parseMethodDescriptor yX10_fault.desc).map (fun d => d.parameters.length) = some 1 := by decide +kernel
theorem hd_X10_feed : yX10_feed.cls ≠ "java/lang/invoke/MethodHandle" ∧ yX10_feed.cls ≠ "java/lang/invoke/VarHandle" ∧ (parseMethodDescriptor yX10_feed.desc).map (fun d => d.parameters.length) = some 5 := by decide +kernel
theorem hd_X10_first : yX10_first.cls ≠ "java/lang/invoke/MethodHandle" ∧ yX10_first.cls ≠ "java/lang/invoke/VarHandle" ∧ (parseMethodDescriptor yX10_first.desc).map (fun d => d.parameters.length) = some 1 := by decide +kernel
theorem hd_X10_ford : yX10_ford.cls ≠ "java/lang/invoke/MethodHandle" ∧ yX10_ford.cls ≠ "java/lang/invoke/VarHandle" ∧ (parseMethodDescriptor yX10_ford.desc).map (fun d => d.parameters.length) = some 0 := by decide +kernel
theorem hd_X10_gets : yX10_gets.cls ≠ "java/lang/invoke/MethodHandle" ∧ yX10_gets.cls ≠ "java/lang/invoke/VarHandle" ∧ (parseMethodDescriptor yX10_gets.desc).map (fun d => d.parameters.length) = some 4 := by decide +kernel
theorem hd_X10_goAll : yX10_goAll.cls ≠ "java/lang/invoke/MethodHandle" ∧ yX10_goAll.cls ≠ "java/lang/invoke/VarHandle" ∧ (parseMethodDescriptor yX10_goAll.desc).map (fun d => d.parameters.length) = some 0 := by decide +kernel
theorem hd_X10_good : yX10_good.cls ≠ "java/lang/invoke/MethodHandle" ∧ yX10_good.cls ≠ "java/lang/invoke/VarHandle" ∧ (parseMethodDescriptor yX10_good.desc).map (fun d => d.parameters.length) = some 0 := by decide +kernel
theorem hd_X10_grief : yX10_grief.cls ≠ "java/lang/invoke/MethodHandle" ∧ yX10_grief.cls ≠ "java/lang/invoke/VarHandle" ∧ (parseMethodDescriptor yX10_grief.desc).map (fun d => d.parameters.length) = some 2 := by decide +kernel
theorem hd_X10_griefs : yX10_griefs.cls ≠ "java/lang/invoke/MethodHandle" ∧ yX10_griefs.cls ≠ "java/lang/invoke/VarHandle" ∧ (parseMethodDescriptor yX10_griefs.desc).map (fun d => d.parameters.length) = some 2 := by decide +kernel
theorem hd_X10_ground : yX10_ground.cls ≠ "java/lang/invoke/MethodHandle" ∧ yX10_ground.cls ≠ "java/lang/invoke/VarHandle" ∧ (parseMethodDescriptor yX10_ground.desc).map (fun d => d.parameters.length) = some 1 := by decide +kernel
theorem hd_X10_haunt : yX10_haunt.cls ≠ "java/lang/invoke/MethodHandle" ∧ yX10_haunt.cls ≠ "java/lang/invoke/VarHandle" ∧ (parseMethodDescriptor yX10_haunt.desc).map (fun d => d.parameters.length) = some 1 := by decide +kernel
theorem hd_X10_house : yX10_house.cls ≠ "java/lang/invoke/MethodHandle" ∧ yX10_house.cls ≠ "java/lang/invoke/VarHandle" ∧ (parseMethodDescriptor yX10_house.desc).map (fun d => d.parameters.length) = some 2 := by decide +kernel
theorem hd_X10_houses : yX10_houses.cls ≠ "java/lang/invoke/MethodHandle" ∧ yX10_houses.cls ≠ "java/lang/invoke/VarHandle" ∧ (parseMethodDescriptor yX10_houses.desc).map (fun d => d.parameters.length) = some 0 := by decide +kernel
theorem hd_X10_image : yX10_image.cls ≠ "java/lang/invoke/MethodHandle" ∧ yX10_image.cls ≠ "java/lang/invoke/VarHandle" ∧ (parseMethodDescriptor yX10_image.desc).map (fun d => d.parameters.length) = some 1 := by decide +kernel
theorem hd_X10_in : yX10_in.cls ≠ "java/lang/invoke/MethodHandle" ∧ yX10_in.cls ≠ "java/lang/invoke/VarHandle" ∧ (parseMethodDescriptor yX10_in.desc).map (fun d => d.parameters.length) = some 3 := by decide +kernel
theorem hd_X10_init : yX10_init.cls ≠ "java/lang/invoke/MethodHandle" ∧ yX10_init.cls ≠ "java/lang/invoke/VarHandle" ∧ (parseMethodDescriptor yX10_init.desc).map (fun d => d.parameters.length) = some 0 := by decide +kernel
theorem hd_X10_isCell : yX10_isCell.cls ≠ "java/lang/invoke/MethodHandle" ∧ yX10_isCell.cls ≠ "java/lang/invoke/VarHandle" ∧ (parseMethodDescriptor yX10_isCell.desc).map (fun d => d.parameters.length) = some 1 := by decide +kernel
theorem hd_X10_isColony : yX10_isColony.cls ≠ "java/lang/invoke/MethodHandle" ∧ yX10_isColony.cls ≠ "java/lang/invoke/VarHandle" ∧ (parseMethodDescriptor yX10_isColony.desc).map (fun d => d.parameters.length) = some 0 := by decide +kernel
theorem hd_X10_isHouseTold : yX10_isHouseTold.cls ≠ "java/lang/invoke/MethodHandle" ∧ yX10_isHouseTold.cls ≠ "java/lang/invoke/VarHandle" ∧ (parseMethodDescriptor yX10_isHouseTold.desc).map (fun d => d.parameters.length) = some 1 := by decide +kernel
theorem hd_X10_isSeed : yX10_isSeed.cls ≠ "java/lang/invoke/MethodHandle" ∧ yX10_isSeed.cls ≠ "java/lang/invoke/VarHandle" ∧ (parseMethodDescriptor yX10_isSeed.desc).map (fun d => d.parameters.length) = some 1 := by decide +kernel
theorem hd_X10_isSlot : yX10_isSlot.cls ≠ "java/lang/invoke/MethodHandle" ∧ yX10_isSlot.cls ≠ "java/lang/invoke/VarHandle" ∧ (parseMethodDescriptor yX10_isSlot.desc).map (fun d => d.parameters.length) = some 1 := by decide +kernel
theorem hd_X10_isWidow : yX10_isWidow.cls ≠ "java/lang/invoke/MethodHandle" ∧ yX10_isWidow.cls ≠ "java/lang/invoke/VarHandle" ∧ (parseMethodDescriptor yX10_isWidow.desc).map (fun d => d.parameters.length) = some 1 := by decide +kernel
theorem hd_X10_isYear : yX10_isYear.cls ≠ "java/lang/invoke/MethodHandle" ∧ yX10_isYear.cls ≠ "java/lang/invoke/VarHandle" ∧ (parseMethodDescriptor yX10_isYear.desc).map (fun d => d.parameters.length) = some 1 := by decide +kernel
theorem hd_X10_joins : yX10_joins.cls ≠ "java/lang/invoke/MethodHandle" ∧ yX10_joins.cls ≠ "java/lang/invoke/VarHandle" ∧ (parseMethodDescriptor yX10_joins.desc).map (fun d => d.parameters.length) = some 2 := by decide +kernel
theorem hd_X10_keepYear : yX10_keepYear.cls ≠ "java/lang/invoke/MethodHandle" ∧ yX10_keepYear.cls ≠ "java/lang/invoke/VarHandle" ∧ (parseMethodDescriptor yX10_keepYear.desc).map (fun d => d.parameters.length) = some 1 := by decide +kernel
theorem hd_X10_keeps : yX10_keeps.cls ≠ "java/lang/invoke/MethodHandle" ∧ yX10_keeps.cls ≠ "java/lang/invoke/VarHandle" ∧ (parseMethodDescriptor yX10_keeps.desc).map (fun d => d.parameters.length) = some 1 := by decide +kernel
theorem hd_X10_law : yX10_law.cls ≠ "java/lang/invoke/MethodHandle" ∧ yX10_law.cls ≠ "java/lang/invoke/VarHandle" ∧ (parseMethodDescriptor yX10_law.desc).map (fun d => d.parameters.length) = some 0 := by decide +kernel
theorem hd_X10_laws : yX10_laws.cls ≠ "java/lang/invoke/MethodHandle" ∧ yX10_laws.cls ≠ "java/lang/invoke/VarHandle" ∧ (parseMethodDescriptor yX10_laws.desc).map (fun d => d.parameters.length) = some 1 := by decide +kernel
theorem hd_X10_leaves : yX10_leaves.cls ≠ "java/lang/invoke/MethodHandle" ∧ yX10_leaves.cls ≠ "java/lang/invoke/VarHandle" ∧ (parseMethodDescriptor yX10_leaves.desc).map (fun d => d.parameters.length) = some 2 := by decide +kernel
theorem hd_X10_line : yX10_line.cls ≠ "java/lang/invoke/MethodHandle" ∧ yX10_line.cls ≠ "java/lang/invoke/VarHandle" ∧ (parseMethodDescriptor yX10_line.desc).map (fun d => d.parameters.length) = some 1 := by decide +kernel
theorem hd_X10_loop : yX10_loop.cls ≠ "java/lang/invoke/MethodHandle" ∧ yX10_loop.cls ≠ "java/lang/invoke/VarHandle" ∧ (parseMethodDescriptor yX10_loop.desc).map (fun d => d.parameters.length) = some 1 := by decide +kernel
theorem hd_X10_luck : yX10_luck.cls ≠ "java/lang/invoke/MethodHandle" ∧ yX10_luck.cls ≠ "java/lang/invoke/VarHandle" ∧ (parseMethodDescriptor yX10_luck.desc).map (fun d => d.parameters.length) = some 3 := by decide +kernel
theorem hd_X10_mean : yX10_mean.cls ≠ "java/lang/invoke/MethodHandle" ∧ yX10_mean.cls ≠ "java/lang/invoke/VarHandle" ∧ (parseMethodDescriptor yX10_mean.desc).map (fun d => d.parameters.length) = some 1 := by decide +kernel
theorem hd_X10_missing : yX10_missing.cls ≠ "java/lang/invoke/MethodHandle" ∧ yX10_missing.cls ≠ "java/lang/invoke/VarHandle" ∧ (parseMethodDescriptor yX10_missing.desc).map (fun d => d.parameters.length) = some 1 := by decide +kernel
theorem hd_X10_moved : yX10_moved.cls ≠ "java/lang/invoke/MethodHandle" ∧ yX10_moved.cls ≠ "java/lang/invoke/VarHandle" ∧ (parseMethodDescriptor yX10_moved.desc).map (fun d => d.parameters.length) = some 1 := by decide +kernel
theorem hd_X10_moves : yX10_moves.cls ≠ "java/lang/invoke/MethodHandle" ∧ yX10_moves.cls ≠ "java/lang/invoke/VarHandle" ∧ (parseMethodDescriptor yX10_moves.desc).map (fun d => d.parameters.length) = some 1 := by decide +kernel
theorem hd_X10_net : yX10_net.cls ≠ "java/lang/invoke/MethodHandle" ∧ yX10_net.cls ≠ "java/lang/invoke/VarHandle" ∧ (parseMethodDescriptor yX10_net.desc).map (fun d => d.parameters.length) = some 2 := by decide +kernel
theorem hd_X10_nets : yX10_nets.cls ≠ "java/lang/invoke/MethodHandle" ∧ yX10_nets.cls ≠ "java/lang/invoke/VarHandle" ∧ (parseMethodDescriptor yX10_nets.desc).map (fun d => d.parameters.length) = some 1 := by decide +kernel
theorem hd_X10_paste : yX10_paste.cls ≠ "java/lang/invoke/MethodHandle" ∧ yX10_paste.cls ≠ "java/lang/invoke/VarHandle" ∧ (parseMethodDescriptor yX10_paste.desc).map (fun d => d.parameters.length) = some 5 := by decide +kernel
theorem hd_X10_pegs : yX10_pegs.cls ≠ "java/lang/invoke/MethodHandle" ∧ yX10_pegs.cls ≠ "java/lang/invoke/VarHandle" ∧ (parseMethodDescriptor yX10_pegs.desc).map (fun d => d.parameters.length) = some 1 := by decide +kernel
theorem hd_X10_rate : yX10_rate.cls ≠ "java/lang/invoke/MethodHandle" ∧ yX10_rate.cls ≠ "java/lang/invoke/VarHandle" ∧ (parseMethodDescriptor yX10_rate.desc).map (fun d => d.parameters.length) = some 2 := by decide +kernel
theorem hd_X10_rests : yX10_rests.cls ≠ "java/lang/invoke/MethodHandle" ∧ yX10_rests.cls ≠ "java/lang/invoke/VarHandle" ∧ (parseMethodDescriptor yX10_rests.desc).map (fun d => d.parameters.length) = some 2 := by decide +kernel
theorem hd_X10_rings : yX10_rings.cls ≠ "java/lang/invoke/MethodHandle" ∧ yX10_rings.cls ≠ "java/lang/invoke/VarHandle" ∧ (parseMethodDescriptor yX10_rings.desc).map (fun d => d.parameters.length) = some 1 := by decide +kernel
theorem hd_X10_road : yX10_road.cls ≠ "java/lang/invoke/MethodHandle" ∧ yX10_road.cls ≠ "java/lang/invoke/VarHandle" ∧ (parseMethodDescriptor yX10_road.desc).map (fun d => d.parameters.length) = some 2 := by decide +kernel
theorem hd_X10_roads : yX10_roads.cls ≠ "java/lang/invoke/MethodHandle" ∧ yX10_roads.cls ≠ "java/lang/invoke/VarHandle" ∧ (parseMethodDescriptor yX10_roads.desc).map (fun d => d.parameters.length) = some 1 := by decide +kernel
theorem hd_X10_row : yX10_row.cls ≠ "java/lang/invoke/MethodHandle" ∧ yX10_row.cls ≠ "java/lang/invoke/VarHandle" ∧ (parseMethodDescriptor yX10_row.desc).map (fun d => d.parameters.length) = some 3 := by decide +kernel
theorem hd_X10_see : yX10_see.cls ≠ "java/lang/invoke/MethodHandle" ∧ yX10_see.cls ≠ "java/lang/invoke/VarHandle" ∧ (parseMethodDescriptor yX10_see.desc).map (fun d => d.parameters.length) = some 1 := by decide +kernel
theorem hd_X10_served : yX10_served.cls ≠ "java/lang/invoke/MethodHandle" ∧ yX10_served.cls ≠ "java/lang/invoke/VarHandle" ∧ (parseMethodDescriptor yX10_served.desc).map (fun d => d.parameters.length) = some 1 := by decide +kernel
theorem hd_X10_share : yX10_share.cls ≠ "java/lang/invoke/MethodHandle" ∧ yX10_share.cls ≠ "java/lang/invoke/VarHandle" ∧ (parseMethodDescriptor yX10_share.desc).map (fun d => d.parameters.length) = some 2 := by decide +kernel
theorem hd_X10_shared : yX10_shared.cls ≠ "java/lang/invoke/MethodHandle" ∧ yX10_shared.cls ≠ "java/lang/invoke/VarHandle" ∧ (parseMethodDescriptor yX10_shared.desc).map (fun d => d.parameters.length) = some 2 := by decide +kernel
theorem hd_X10_stands : yX10_stands.cls ≠ "java/lang/invoke/MethodHandle" ∧ yX10_stands.cls ≠ "java/lang/invoke/VarHandle" ∧ (parseMethodDescriptor yX10_stands.desc).map (fun d => d.parameters.length) = some 1 := by decide +kernel
theorem hd_X10_steps : yX10_steps.cls ≠ "java/lang/invoke/MethodHandle" ∧ yX10_steps.cls ≠ "java/lang/invoke/VarHandle" ∧ (parseMethodDescriptor yX10_steps.desc).map (fun d => d.parameters.length) = some 1 := by decide +kernel
theorem hd_X10_straight : yX10_straight.cls ≠ "java/lang/invoke/MethodHandle" ∧ yX10_straight.cls ≠ "java/lang/invoke/VarHandle" ∧ (parseMethodDescriptor yX10_straight.desc).map (fun d => d.parameters.length) = some 1 := by decide +kernel
theorem hd_X10_undo : yX10_undo.cls ≠ "java/lang/invoke/MethodHandle" ∧ yX10_undo.cls ≠ "java/lang/invoke/VarHandle" ∧ (parseMethodDescriptor yX10_undo.desc).map (fun d => d.parameters.length) = some 0 := by decide +kernel
theorem hd_X10_visits : yX10_visits.cls ≠ "java/lang/invoke/MethodHandle" ∧ yX10_visits.cls ≠ "java/lang/invoke/VarHandle" ∧ (parseMethodDescriptor yX10_visits.desc).map (fun d => d.parameters.length) = some 2 := by decide +kernel
theorem hd_X10_walked : yX10_walked.cls ≠ "java/lang/invoke/MethodHandle" ∧ yX10_walked.cls ≠ "java/lang/invoke/VarHandle" ∧ (parseMethodDescriptor yX10_walked.desc).map (fun d => d.parameters.length) = some 1 := by decide +kernel
theorem hd_X10_way : yX10_way.cls ≠ "java/lang/invoke/MethodHandle" ∧ yX10_way.cls ≠ "java/lang/invoke/VarHandle" ∧ (parseMethodDescriptor yX10_way.desc).map (fun d => d.parameters.length) = some 3 := by decide +kernel
theorem hd_X10_widow : yX10_widow.cls ≠ "java/lang/invoke/MethodHandle" ∧ yX10_widow.cls ≠ "java/lang/invoke/VarHandle" ∧ (parseMethodDescriptor yX10_widow.desc).map (fun d => d.parameters.length) = some 2 := by decide +kernel
theorem hd_X10_widowOf : yX10_widowOf.cls ≠ "java/lang/invoke/MethodHandle" ∧ yX10_widowOf.cls ≠ "java/lang/invoke/VarHandle" ∧ (parseMethodDescriptor yX10_widowOf.desc).map (fun d => d.parameters.length) = some 2 := by decide +kernel
theorem hd_X10_widows : yX10_widows.cls ≠ "java/lang/invoke/MethodHandle" ∧ yX10_widows.cls ≠ "java/lang/invoke/VarHandle" ∧ (parseMethodDescriptor yX10_widows.desc).map (fun d => d.parameters.length) = some 0 := by decide +kernel
theorem hd_X10_worth : yX10_worth.cls ≠ "java/lang/invoke/MethodHandle" ∧ yX10_worth.cls ≠ "java/lang/invoke/VarHandle" ∧ (parseMethodDescriptor yX10_worth.desc).map (fun d => d.parameters.length) = some 1 := by decide +kernel
theorem hd_X10_write : yX10_write.cls ≠ "java/lang/invoke/MethodHandle" ∧ yX10_write.cls ≠ "java/lang/invoke/VarHandle" ∧ (parseMethodDescriptor yX10_write.desc).map (fun d => d.parameters.length) = some 3 := by decide +kernel
theorem hd_X10_years : yX10_years.cls ≠ "java/lang/invoke/MethodHandle" ∧ yX10_years.cls ≠ "java/lang/invoke/VarHandle" ∧ (parseMethodDescriptor yX10_years.desc).map (fun d => d.parameters.length) = some 0 := by decide +kernel
theorem hd_X1_init : yX1_init.cls ≠ "java/lang/invoke/MethodHandle" ∧ yX1_init.cls ≠ "java/lang/invoke/VarHandle" ∧ (parseMethodDescriptor yX1_init.desc).map (fun d => d.parameters.length) = some 0 := by decide +kernel
theorem hd_X2_init : yX2_init.cls ≠ "java/lang/invoke/MethodHandle" ∧ yX2_init.cls ≠ "java/lang/invoke/VarHandle" ∧ (parseMethodDescriptor yX2_init.desc).map (fun d => d.parameters.length) = some 0 := by decide +kernel
theorem hd_X3_init : yX3_init.cls ≠ "java/lang/invoke/MethodHandle" ∧ yX3_init.cls ≠ "java/lang/invoke/VarHandle" ∧ (parseMethodDescriptor yX3_init.desc).map (fun d => d.parameters.length) = some 0 := by decide +kernel
theorem hd_X4_init : yX4_init.cls ≠ "java/lang/invoke/MethodHandle" ∧ yX4_init.cls ≠ "java/lang/invoke/VarHandle" ∧ (parseMethodDescriptor yX4_init.desc).map (fun d => d.parameters.length) = some 0 := by decide +kernel
theorem hd_X4_isBlank : yX4_isBlank.cls ≠ "java/lang/invoke/MethodHandle" ∧ yX4_isBlank.cls ≠ "java/lang/invoke/VarHandle" ∧ (parseMethodDescriptor yX4_isBlank.desc).map (fun d => d.parameters.length) = some 1 := by decide +kernel
theorem hd_X4_next : yX4_next.cls ≠ "java/lang/invoke/MethodHandle" ∧ yX4_next.cls ≠ "java/lang/invoke/VarHandle" ∧ (parseMethodDescriptor yX4_next.desc).map (fun d => d.parameters.length) = some 0 := by decide +kernel
theorem hd_X4_read : yX4_read.cls ≠ "java/lang/invoke/MethodHandle" ∧ yX4_read.cls ≠ "java/lang/invoke/VarHandle" ∧ (parseMethodDescriptor yX4_read.desc).map (fun d => d.parameters.length) = some 0 := by decide +kernel
theorem hd_X5_clear : yX5_clear.cls ≠ "java/lang/invoke/MethodHandle" ∧ yX5_clear.cls ≠ "java/lang/invoke/VarHandle" ∧ (parseMethodDescriptor yX5_clear.desc).map (fun d => d.parameters.length) = some 3 := by decide +kernel
theorem hd_X5_empty : yX5_empty.cls ≠ "java/lang/invoke/MethodHandle" ∧ yX5_empty.cls ≠ "java/lang/invoke/VarHandle" ∧ (parseMethodDescriptor yX5_empty.desc).map (fun d => d.parameters.length) = some 1 := by decide +kernel
theorem hd_X5_init : yX5_init.cls ≠ "java/lang/invoke/MethodHandle" ∧ yX5_init.cls ≠ "java/lang/invoke/VarHandle" ∧ (parseMethodDescriptor yX5_init.desc).map (fun d => d.parameters.length) = some 0 := by decide +kernel
theorem hd_X5_many : yX5_many.cls ≠ "java/lang/invoke/MethodHandle" ∧ yX5_many.cls ≠ "java/lang/invoke/VarHandle" ∧ (parseMethodDescriptor yX5_many.desc).map (fun d => d.parameters.length) = some 0 := by decide +kernel
theorem hd_X6_begin : yX6_begin.cls ≠ "java/lang/invoke/MethodHandle" ∧ yX6_begin.cls ≠ "java/lang/invoke/VarHandle" ∧ (parseMethodDescriptor yX6_begin.desc).map (fun d => d.parameters.length) = some 1 := by decide +kernel
theorem hd_X6_init : yX6_init.cls ≠ "java/lang/invoke/MethodHandle" ∧ yX6_init.cls ≠ "java/lang/invoke/VarHandle" ∧ (parseMethodDescriptor yX6_init.desc).map (fun d => d.parameters.length) = some 0 := by decide +kernel
theorem hd_X6_tell : yX6_tell.cls ≠ "java/lang/invoke/MethodHandle" ∧ yX6_tell.cls ≠ "java/lang/invoke/VarHandle" ∧ (parseMethodDescriptor yX6_tell.desc).map (fun d => d.parameters.length) = some 2 := by decide +kernel
theorem hd_X7_asNow : yX7_asNow.cls ≠ "java/lang/invoke/MethodHandle" ∧ yX7_asNow.cls ≠ "java/lang/invoke/VarHandle" ∧ (parseMethodDescriptor yX7_asNow.desc).map (fun d => d.parameters.length) = some 1 := by decide +kernel
theorem hd_X7_init : yX7_init.cls ≠ "java/lang/invoke/MethodHandle" ∧ yX7_init.cls ≠ "java/lang/invoke/VarHandle" ∧ (parseMethodDescriptor yX7_init.desc).map (fun d => d.parameters.length) = some 0 := by decide +kernel
theorem hd_X8_byteAt : yX8_byteAt.cls ≠ "java/lang/invoke/MethodHandle" ∧ yX8_byteAt.cls ≠ "java/lang/invoke/VarHandle" ∧ (parseMethodDescriptor yX8_byteAt.desc).map (fun d => d.parameters.length) = some 1 := by decide +kernel
theorem hd_X8_init : yX8_init.cls ≠ "java/lang/invoke/MethodHandle" ∧ yX8_init.cls ≠ "java/lang/invoke/VarHandle" ∧ (parseMethodDescriptor yX8_init.desc).map (fun d => d.parameters.length) = some 0 := by decide +kernel
theorem hd_X8_put : yX8_put.cls ≠ "java/lang/invoke/MethodHandle" ∧ yX8_put.cls ≠ "java/lang/invoke/VarHandle" ∧ (parseMethodDescriptor yX8_put.desc).map (fun d => d.parameters.length) = some 1 := by decide +kernel
theorem hd_X9_anew : yX9_anew.cls ≠ "java/lang/invoke/MethodHandle" ∧ yX9_anew.cls ≠ "java/lang/invoke/VarHandle" ∧ (parseMethodDescriptor yX9_anew.desc).map (fun d => d.parameters.length) = some 0 := by decide +kernel
theorem hd_X9_areTwo : yX9_areTwo.cls ≠ "java/lang/invoke/MethodHandle" ∧ yX9_areTwo.cls ≠ "java/lang/invoke/VarHandle" ∧ (parseMethodDescriptor yX9_areTwo.desc).map (fun d => d.parameters.length) = some 2 := by decide +kernel
theorem hd_X9_ask : yX9_ask.cls ≠ "java/lang/invoke/MethodHandle" ∧ yX9_ask.cls ≠ "java/lang/invoke/VarHandle" ∧ (parseMethodDescriptor yX9_ask.desc).map (fun d => d.parameters.length) = some 2 := by decide +kernel
theorem hd_X9_at : yX9_at.cls ≠ "java/lang/invoke/MethodHandle" ∧ yX9_at.cls ≠ "java/lang/invoke/VarHandle" ∧ (parseMethodDescriptor yX9_at.desc).map (fun d => d.parameters.length) = some 2 := by decide +kernel
theorem hd_X9_back : yX9_back.cls ≠ "java/lang/invoke/MethodHandle" ∧ yX9_back.cls ≠ "java/lang/invoke/VarHandle" ∧ (parseMethodDescriptor yX9_back.desc).map (fun d => d.parameters.length) = some 1 := by decide +kernel
theorem hd_X9_beeline : yX9_beeline.cls ≠ "java/lang/invoke/MethodHandle" ∧ yX9_beeline.cls ≠ "java/lang/invoke/VarHandle" ∧ (parseMethodDescriptor yX9_beeline.desc).map (fun d => d.parameters.length) = some 2 := by decide +kernel
theorem hd_X9_blame : yX9_blame.cls ≠ "java/lang/invoke/MethodHandle" ∧ yX9_blame.cls ≠ "java/lang/invoke/VarHandle" ∧ (parseMethodDescriptor yX9_blame.desc).map (fun d => d.parameters.length) = some 0 := by decide +kernel
theorem hd_X9_bridge : yX9_bridge.cls ≠ "java/lang/invoke/MethodHandle" ∧ yX9_bridge.cls ≠ "java/lang/invoke/VarHandle" ∧ (parseMethodDescriptor yX9_bridge.desc).map (fun d => d.parameters.length) = some 1 := by decide +kernel
theorem hd_X9_bridges : yX9_bridges.cls ≠ "java/lang/invoke/MethodHandle" ∧ yX9_bridges.cls ≠ "java/lang/invoke/VarHandle" ∧ (parseMethodDescriptor yX9_bridges.desc).map (fun d => d.parameters.length) = some 1 := by decide +kernel
theorem hd_X9_by : yX9_by.cls ≠ "java/lang/invoke/MethodHandle" ∧ yX9_by.cls ≠ "java/lang/invoke/VarHandle" ∧ (parseMethodDescriptor yX9_by.desc).map (fun d => d.parameters.length) = some 1 := by decide +kernel
theorem hd_X9_chance : yX9_chance.cls ≠ "java/lang/invoke/MethodHandle" ∧ yX9_chance.cls ≠ "java/lang/invoke/VarHandle" ∧ (parseMethodDescriptor yX9_chance.desc).map (fun d => d.parameters.length) = some 2 := by decide +kernel
theorem hd_X9_colony : yX9_colony.cls ≠ "java/lang/invoke/MethodHandle" ∧ yX9_colony.cls ≠ "java/lang/invoke/VarHandle" ∧ (parseMethodDescriptor yX9_colony.desc).map (fun d => d.parameters.length) = some 0 := by decide +kernel
theorem hd_X9_corners : yX9_corners.cls ≠ "java/lang/invoke/MethodHandle" ∧ yX9_corners.cls ≠ "java/lang/invoke/VarHandle" ∧ (parseMethodDescriptor yX9_corners.desc).map (fun d => d.parameters.length) = some 2 := by decide +kernel
theorem hd_X9_count : yX9_count.cls ≠ "java/lang/invoke/MethodHandle" ∧ yX9_count.cls ≠ "java/lang/invoke/VarHandle" ∧ (parseMethodDescriptor yX9_count.desc).map (fun d => d.parameters.length) = some 1 := by decide +kernel
theorem hd_X9_cover : yX9_cover.cls ≠ "java/lang/invoke/MethodHandle" ∧ yX9_cover.cls ≠ "java/lang/invoke/VarHandle" ∧ (parseMethodDescriptor yX9_cover.desc).map (fun d => d.parameters.length) = some 0 := by decide +kernel
theorem hd_X9_covers : yX9_covers.cls ≠ "java/lang/invoke/MethodHandle" ∧ yX9_covers.cls ≠ "java/lang/invoke/VarHandle" ∧ (parseMethodDescriptor yX9_covers.desc).map (fun d => d.parameters.length) = some 0 := by decide +kernel
theorem hd_X9_creek : yX9_creek.cls ≠ "java/lang/invoke/MethodHandle" ∧ yX9_creek.cls ≠ "java/lang/invoke/VarHandle" ∧ (parseMethodDescriptor yX9_creek.desc).map (fun d => d.parameters.length) = some 1 := by decide +kernel
theorem hd_X9_crossing : yX9_crossing.cls ≠ "java/lang/invoke/MethodHandle" ∧ yX9_crossing.cls ≠ "java/lang/invoke/VarHandle" ∧ (parseMethodDescriptor yX9_crossing.desc).map (fun d => d.parameters.length) = some 0 := by decide +kernel
theorem hd_X9_drawn : yX9_drawn.cls ≠ "java/lang/invoke/MethodHandle" ∧ yX9_drawn.cls ≠ "java/lang/invoke/VarHandle" ∧ (parseMethodDescriptor yX9_drawn.desc).map (fun d => d.parameters.length) = some 2 := by decide +kernel
theorem hd_X9_end : yX9_end.cls ≠ "java/lang/invoke/MethodHandle" ∧ yX9_end.cls ≠ "java/lang/invoke/VarHandle" ∧ (parseMethodDescriptor yX9_end.desc).map (fun d => d.parameters.length) = some 1 := by decide +kernel
theorem hd_X9_evening : yX9_evening.cls ≠ "java/lang/invoke/MethodHandle" ∧ yX9_evening.cls ≠ "java/lang/invoke/VarHandle" ∧ (parseMethodDescriptor yX9_evening.desc).map (fun d => d.parameters.length) = some 1 := by decide +kernel
theorem hd_X9_faced : yX9_faced.cls ≠ "java/lang/invoke/MethodHandle" ∧ yX9_faced.cls ≠ "java/lang/invoke/VarHandle" ∧ (parseMethodDescriptor yX9_faced.desc).map (fun d => d.parameters.length) = some 2 := by decide +kernel
theorem hd_X9_farthest : yX9_farthest.cls ≠ "java/lang/invoke/MethodHandle" ∧ yX9_farthest.cls ≠ "java/lang/invoke/VarHandle" ∧ (parseMethodDescriptor yX9_farthest.desc).map (fun d => d.parameters.length) = some 2 := by decide +kernel
theorem hd_X9_fault : yX9_fault.cls ≠ "java/lang/invoke/MethodHandle" ∧ yX9_fault.cls ≠ "java/lang/invoke/VarHandle" ∧ (parseMethodDescriptor yX9_fault.desc).map (fun d => d.parameters.length) = some 1 := by decide +kernel
theorem hd_X9_feed : yX9_feed.cls ≠ "java/lang/invoke/MethodHandle" ∧ yX9_feed.cls ≠ "java/lang/invoke/VarHandle" ∧ (parseMethodDescriptor yX9_feed.desc).map (fun d => d.parameters.length) = some 5 := by decide +kernel
theorem hd_X9_first : yX9_first.cls ≠ "java/lang/invoke/MethodHandle" ∧ yX9_first.cls ≠ "java/lang/invoke/VarHandle" ∧ (parseMethodDescriptor yX9_first.desc).map (fun d => d.parameters.length) = some 1 := by decide +kernel
theorem hd_X9_ford : yX9_ford.cls ≠ "java/lang/invoke/MethodHandle" ∧ yX9_ford.cls ≠ "java/lang/invoke/VarHandle" ∧ (parseMethodDescriptor yX9_ford.desc).map (fun d => d.parameters.length) = some 0 := by decide +kernel
theorem hd_X9_gets : yX9_gets.cls ≠ "java/lang/invoke/MethodHandle" ∧ yX9_gets.cls ≠ "java/lang/invoke/VarHandle" ∧ (parseMethodDescriptor yX9_gets.desc).map (fun d => d.parameters.length) = some 4 := by decide +kernel
theorem hd_X9_grief : yX9_grief.cls ≠ "java/lang/invoke/MethodHandle" ∧ yX9_grief.cls ≠ "java/lang/invoke/VarHandle" ∧ (parseMethodDescriptor yX9_grief.desc).map (fun d => d.parameters.length) = some 2 := by decide +kernel
theorem hd_X9_griefs : yX9_griefs.cls ≠ "java/lang/invoke/MethodHandle" ∧ yX9_griefs.cls ≠ "java/lang/invoke/VarHandle" ∧ (parseMethodDescriptor yX9_griefs.desc).map (fun d => d.parameters.length) = some 2 := by decide +kernel
theorem hd_X9_ground : yX9_ground.cls ≠ "java/lang/invoke/MethodHandle" ∧ yX9_ground.cls ≠ "java/lang/invoke/VarHandle" ∧ (parseMethodDescriptor yX9_ground.desc).map (fun d => d.parameters.length) = some 1 := by decide +kernel
theorem hd_X9_haunt : yX9_haunt.cls ≠ "java/lang/invoke/MethodHandle" ∧ yX9_haunt.cls ≠ "java/lang/invoke/VarHandle" ∧ (parseMethodDescriptor yX9_haunt.desc).map (fun d => d.parameters.length) = some 1 := by decide +kernel
theorem hd_X9_house : yX9_house.cls ≠ "java/lang/invoke/MethodHandle" ∧ yX9_house.cls ≠ "java/lang/invoke/VarHandle" ∧ (parseMethodDescriptor yX9_house.desc).map (fun d => d.parameters.length) = some 2 := by decide +kernel
theorem hd_X9_image : yX9_image.cls ≠ "java/lang/invoke/MethodHandle" ∧ yX9_image.cls ≠ "java/lang/invoke/VarHandle" ∧ (parseMethodDescriptor yX9_image.desc).map (fun d => d.parameters.length) = some 1 := by decide +kernel
theorem hd_X9_init : yX9_init.cls ≠ "java/lang/invoke/MethodHandle" ∧ yX9_init.cls ≠ "java/lang/invoke/VarHandle" ∧ (parseMethodDescriptor yX9_init.desc).map (fun d => d.parameters.length) = some 0 := by decide +kernel
theorem hd_X9_isSlot : yX9_isSlot.cls ≠ "java/lang/invoke/MethodHandle" ∧ yX9_isSlot.cls ≠ "java/lang/invoke/VarHandle" ∧ (parseMethodDescriptor yX9_isSlot.desc).map (fun d => d.parameters.length) = some 1 := by decide +kernel
theorem hd_X9_joins : yX9_joins.cls ≠ "java/lang/invoke/MethodHandle" ∧ yX9_joins.cls ≠ "java/lang/invoke/VarHandle" ∧ (parseMethodDescriptor yX9_joins.desc).map (fun d => d.parameters.length) = some 2 := by decide +kernel
theorem hd_X9_keeps : yX9_keeps.cls ≠ "java/lang/invoke/MethodHandle" ∧ yX9_keeps.cls ≠ "java/lang/invoke/VarHandle" ∧ (parseMethodDescriptor yX9_keeps.desc).map (fun d => d.parameters.length) = some 1 := by decide +kernel
theorem hd_X9_law : yX9_law.cls ≠ "java/lang/invoke/MethodHandle" ∧ yX9_law.cls ≠ "java/lang/invoke/VarHandle" ∧ (parseMethodDescriptor yX9_law.desc).map (fun d => d.parameters.length) = some 0 := by decide +kernel
theorem hd_X9_laws : yX9_laws.cls ≠ "java/lang/invoke/MethodHandle" ∧ yX9_laws.cls ≠ "java/lang/invoke/VarHandle" ∧ (parseMethodDescriptor yX9_laws.desc).map (fun d => d.parameters.length) = some 1 := by decide +kernel
theorem hd_X9_leaves : yX9_leaves.cls ≠ "java/lang/invoke/MethodHandle" ∧ yX9_leaves.cls ≠ "java/lang/invoke/VarHandle" ∧ (parseMethodDescriptor yX9_leaves.desc).map (fun d => d.parameters.length) = some 2 := by decide +kernel
theorem hd_X9_line : yX9_line.cls ≠ "java/lang/invoke/MethodHandle" ∧ yX9_line.cls ≠ "java/lang/invoke/VarHandle" ∧ (parseMethodDescriptor yX9_line.desc).map (fun d => d.parameters.length) = some 1 := by decide +kernel
theorem hd_X9_loop : yX9_loop.cls ≠ "java/lang/invoke/MethodHandle" ∧ yX9_loop.cls ≠ "java/lang/invoke/VarHandle" ∧ (parseMethodDescriptor yX9_loop.desc).map (fun d => d.parameters.length) = some 1 := by decide +kernel
theorem hd_X9_luck : yX9_luck.cls ≠ "java/lang/invoke/MethodHandle" ∧ yX9_luck.cls ≠ "java/lang/invoke/VarHandle" ∧ (parseMethodDescriptor yX9_luck.desc).map (fun d => d.parameters.length) = some 3 := by decide +kernel
theorem hd_X9_mean : yX9_mean.cls ≠ "java/lang/invoke/MethodHandle" ∧ yX9_mean.cls ≠ "java/lang/invoke/VarHandle" ∧ (parseMethodDescriptor yX9_mean.desc).map (fun d => d.parameters.length) = some 1 := by decide +kernel
theorem hd_X9_missing : yX9_missing.cls ≠ "java/lang/invoke/MethodHandle" ∧ yX9_missing.cls ≠ "java/lang/invoke/VarHandle" ∧ (parseMethodDescriptor yX9_missing.desc).map (fun d => d.parameters.length) = some 1 := by decide +kernel
theorem hd_X9_moved : yX9_moved.cls ≠ "java/lang/invoke/MethodHandle" ∧ yX9_moved.cls ≠ "java/lang/invoke/VarHandle" ∧ (parseMethodDescriptor yX9_moved.desc).map (fun d => d.parameters.length) = some 1 := by decide +kernel
theorem hd_X9_moves : yX9_moves.cls ≠ "java/lang/invoke/MethodHandle" ∧ yX9_moves.cls ≠ "java/lang/invoke/VarHandle" ∧ (parseMethodDescriptor yX9_moves.desc).map (fun d => d.parameters.length) = some 1 := by decide +kernel
theorem hd_X9_net : yX9_net.cls ≠ "java/lang/invoke/MethodHandle" ∧ yX9_net.cls ≠ "java/lang/invoke/VarHandle" ∧ (parseMethodDescriptor yX9_net.desc).map (fun d => d.parameters.length) = some 2 := by decide +kernel
theorem hd_X9_nets : yX9_nets.cls ≠ "java/lang/invoke/MethodHandle" ∧ yX9_nets.cls ≠ "java/lang/invoke/VarHandle" ∧ (parseMethodDescriptor yX9_nets.desc).map (fun d => d.parameters.length) = some 1 := by decide +kernel
theorem hd_X9_oneIf : yX9_oneIf.cls ≠ "java/lang/invoke/MethodHandle" ∧ yX9_oneIf.cls ≠ "java/lang/invoke/VarHandle" ∧ (parseMethodDescriptor yX9_oneIf.desc).map (fun d => d.parameters.length) = some 1 := by decide +kernel
theorem hd_X9_paste : yX9_paste.cls ≠ "java/lang/invoke/MethodHandle" ∧ yX9_paste.cls ≠ "java/lang/invoke/VarHandle" ∧ (parseMethodDescriptor yX9_paste.desc).map (fun d => d.parameters.length) = some 5 := by decide +kernel
theorem hd_X9_pegs : yX9_pegs.cls ≠ "java/lang/invoke/MethodHandle" ∧ yX9_pegs.cls ≠ "java/lang/invoke/VarHandle" ∧ (parseMethodDescriptor yX9_pegs.desc).map (fun d => d.parameters.length) = some 1 := by decide +kernel
theorem hd_X9_rate : yX9_rate.cls ≠ "java/lang/invoke/MethodHandle" ∧ yX9_rate.cls ≠ "java/lang/invoke/VarHandle" ∧ (parseMethodDescriptor yX9_rate.desc).map (fun d => d.parameters.length) = some 2 := by decide +kernel
theorem hd_X9_refusalOfRow : yX9_refusalOfRow.cls ≠ "java/lang/invoke/MethodHandle" ∧ yX9_refusalOfRow.cls ≠ "java/lang/invoke/VarHandle" ∧ (parseMethodDescriptor yX9_refusalOfRow.desc).map (fun d => d.parameters.length) = some 1 := by decide +kernel
theorem hd_X9_refusalOfSeen : yX9_refusalOfSeen.cls ≠ "java/lang/invoke/MethodHandle" ∧ yX9_refusalOfSeen.cls ≠ "java/lang/invoke/VarHandle" ∧ (parseMethodDescriptor yX9_refusalOfSeen.desc).map (fun d => d.parameters.length) = some 2 := by decide +kernel
theorem hd_X9_rests : yX9_rests.cls ≠ "java/lang/invoke/MethodHandle" ∧ yX9_rests.cls ≠ "java/lang/invoke/VarHandle" ∧ (parseMethodDescriptor yX9_rests.desc).map (fun d => d.parameters.length) = some 2 := by decide +kernel
theorem hd_X9_rings : yX9_rings.cls ≠ "java/lang/invoke/MethodHandle" ∧ yX9_rings.cls ≠ "java/lang/invoke/VarHandle" ∧ (parseMethodDescriptor yX9_rings.desc).map (fun d => d.parameters.length) = some 1 := by decide +kernel
theorem hd_X9_road : yX9_road.cls ≠ "java/lang/invoke/MethodHandle" ∧ yX9_road.cls ≠ "java/lang/invoke/VarHandle" ∧ (parseMethodDescriptor yX9_road.desc).map (fun d => d.parameters.length) = some 2 := by decide +kernel
theorem hd_X9_roads : yX9_roads.cls ≠ "java/lang/invoke/MethodHandle" ∧ yX9_roads.cls ≠ "java/lang/invoke/VarHandle" ∧ (parseMethodDescriptor yX9_roads.desc).map (fun d => d.parameters.length) = some 1 := by decide +kernel
theorem hd_X9_row : yX9_row.cls ≠ "java/lang/invoke/MethodHandle" ∧ yX9_row.cls ≠ "java/lang/invoke/VarHandle" ∧ (parseMethodDescriptor yX9_row.desc).map (fun d => d.parameters.length) = some 3 := by decide +kernel
theorem hd_X9_served : yX9_served.cls ≠ "java/lang/invoke/MethodHandle" ∧ yX9_served.cls ≠ "java/lang/invoke/VarHandle" ∧ (parseMethodDescriptor yX9_served.desc).map (fun d => d.parameters.length) = some 1 := by decide +kernel
theorem hd_X9_share : yX9_share.cls ≠ "java/lang/invoke/MethodHandle" ∧ yX9_share.cls ≠ "java/lang/invoke/VarHandle" ∧ (parseMethodDescriptor yX9_share.desc).map (fun d => d.parameters.length) = some 2 := by decide +kernel
theorem hd_X9_shared : yX9_shared.cls ≠ "java/lang/invoke/MethodHandle" ∧ yX9_shared.cls ≠ "java/lang/invoke/VarHandle" ∧ (parseMethodDescriptor yX9_shared.desc).map (fun d => d.parameters.length) = some 2 := by decide +kernel
theorem hd_X9_stands : yX9_stands.cls ≠ "java/lang/invoke/MethodHandle" ∧ yX9_stands.cls ≠ "java/lang/invoke/VarHandle" ∧ (parseMethodDescriptor yX9_stands.desc).map (fun d => d.parameters.length) = some 1 := by decide +kernel
theorem hd_X9_steps : yX9_steps.cls ≠ "java/lang/invoke/MethodHandle" ∧ yX9_steps.cls ≠ "java/lang/invoke/VarHandle" ∧ (parseMethodDescriptor yX9_steps.desc).map (fun d => d.parameters.length) = some 1 := by decide +kernel
theorem hd_X9_straight : yX9_straight.cls ≠ "java/lang/invoke/MethodHandle" ∧ yX9_straight.cls ≠ "java/lang/invoke/VarHandle" ∧ (parseMethodDescriptor yX9_straight.desc).map (fun d => d.parameters.length) = some 1 := by decide +kernel
theorem hd_X9_undo : yX9_undo.cls ≠ "java/lang/invoke/MethodHandle" ∧ yX9_undo.cls ≠ "java/lang/invoke/VarHandle" ∧ (parseMethodDescriptor yX9_undo.desc).map (fun d => d.parameters.length) = some 0 := by decide +kernel
theorem hd_X9_visits : yX9_visits.cls ≠ "java/lang/invoke/MethodHandle" ∧ yX9_visits.cls ≠ "java/lang/invoke/VarHandle" ∧ (parseMethodDescriptor yX9_visits.desc).map (fun d => d.parameters.length) = some 2 := by decide +kernel
theorem hd_X9_walkAnew : yX9_walkAnew.cls ≠ "java/lang/invoke/MethodHandle" ∧ yX9_walkAnew.cls ≠ "java/lang/invoke/VarHandle" ∧ (parseMethodDescriptor yX9_walkAnew.desc).map (fun d => d.parameters.length) = some 0 := by decide +kernel
theorem hd_X9_walked : yX9_walked.cls ≠ "java/lang/invoke/MethodHandle" ∧ yX9_walked.cls ≠ "java/lang/invoke/VarHandle" ∧ (parseMethodDescriptor yX9_walked.desc).map (fun d => d.parameters.length) = some 1 := by decide +kernel
theorem hd_X9_way : yX9_way.cls ≠ "java/lang/invoke/MethodHandle" ∧ yX9_way.cls ≠ "java/lang/invoke/VarHandle" ∧ (parseMethodDescriptor yX9_way.desc).map (fun d => d.parameters.length) = some 3 := by decide +kernel
theorem hd_X9_widow : yX9_widow.cls ≠ "java/lang/invoke/MethodHandle" ∧ yX9_widow.cls ≠ "java/lang/invoke/VarHandle" ∧ (parseMethodDescriptor yX9_widow.desc).map (fun d => d.parameters.length) = some 2 := by decide +kernel
theorem hd_X9_worth : yX9_worth.cls ≠ "java/lang/invoke/MethodHandle" ∧ yX9_worth.cls ≠ "java/lang/invoke/VarHandle" ∧ (parseMethodDescriptor yX9_worth.desc).map (fun d => d.parameters.length) = some 1 := by decide +kernel
theorem hd_X9_write : yX9_write.cls ≠ "java/lang/invoke/MethodHandle" ∧ yX9_write.cls ≠ "java/lang/invoke/VarHandle" ∧ (parseMethodDescriptor yX9_write.desc).map (fun d => d.parameters.length) = some 3 := by decide +kernel
theorem ki_m1000000 : ((-1000000) : Int32).toInt = (-1000000) := by decide
theorem ki_m1000 : ((-1000) : Int32).toInt = (-1000) := by decide
theorem ki_m8 : ((-8) : Int32).toInt = (-8) := by decide
theorem ki_m2 : ((-2) : Int32).toInt = (-2) := by decide
theorem ki_m1 : ((-1) : Int32).toInt = (-1) := by decide
theorem ki_0 : (0 : Int32).toInt = 0 := by decide
theorem ki_1 : (1 : Int32).toInt = 1 := by decide
theorem ki_2 : (2 : Int32).toInt = 2 := by decide
theorem ki_3 : (3 : Int32).toInt = 3 := by decide
theorem ki_4 : (4 : Int32).toInt = 4 := by decide
theorem ki_5 : (5 : Int32).toInt = 5 := by decide
theorem ki_6 : (6 : Int32).toInt = 6 := by decide
theorem ki_7 : (7 : Int32).toInt = 7 := by decide
theorem ki_8 : (8 : Int32).toInt = 8 := by decide
theorem ki_9 : (9 : Int32).toInt = 9 := by decide
theorem ki_10 : (10 : Int32).toInt = 10 := by decide
theorem ki_11 : (11 : Int32).toInt = 11 := by decide
theorem ki_13 : (13 : Int32).toInt = 13 := by decide
theorem ki_16 : (16 : Int32).toInt = 16 := by decide
theorem ki_20 : (20 : Int32).toInt = 20 := by decide
theorem ki_22 : (22 : Int32).toInt = 22 := by decide
theorem ki_24 : (24 : Int32).toInt = 24 := by decide
theorem ki_28 : (28 : Int32).toInt = 28 := by decide
theorem ki_32 : (32 : Int32).toInt = 32 := by decide
theorem ki_60 : (60 : Int32).toInt = 60 := by decide
theorem ki_80 : (80 : Int32).toInt = 80 := by decide
theorem ki_149 : (149 : Int32).toInt = 149 := by decide
theorem ki_880 : (880 : Int32).toInt = 880 := by decide
theorem ki_900 : (900 : Int32).toInt = 900 := by decide
theorem kl_m2 : ((-2) : Int64).toInt = (-2) := by decide
theorem kl_m1 : ((-1) : Int64).toInt = (-1) := by decide
theorem kl_0 : (0 : Int64).toInt = 0 := by decide
theorem kl_1 : (1 : Int64).toInt = 1 := by decide
theorem kl_2 : (2 : Int64).toInt = 2 := by decide
theorem kl_3 : (3 : Int64).toInt = 3 := by decide
theorem kl_9 : (9 : Int64).toInt = 9 := by decide
theorem kl_10 : (10 : Int64).toInt = 10 := by decide
theorem kl_20 : (20 : Int64).toInt = 20 := by decide
theorem kl_2000000000 : (2000000000 : Int64).toInt = 2000000000 := by decide
theorem nf_X0 : ∀ j, j < 19 → defaultValue (tyX0 j) = vp_V [.int 0, .int 0, .int 0, .int 0, .int 0, .int 0, .int 0, .int 0, .int 0, .int 0, .null, .null, .null, .null, .null, .null, .null, .null, .null] j := by
  intro j hj
  rcases (show j = 0 ∨ j = 1 ∨ j = 2 ∨ j = 3 ∨ j = 4 ∨ j = 5 ∨ j = 6 ∨ j = 7 ∨ j = 8 ∨ j = 9 ∨ j = 10 ∨ j = 11 ∨ j = 12 ∨ j = 13 ∨ j = 14 ∨ j = 15 ∨ j = 16 ∨ j = 17 ∨ j = 18 by omega) with rfl | rfl | rfl | rfl | rfl | rfl | rfl | rfl | rfl | rfl | rfl | rfl | rfl | rfl | rfl | rfl | rfl | rfl | rfl <;> rfl
theorem nf_X1 : ∀ j, j < 3 → defaultValue (tyX1 j) = vp_V [.null, .null, .int 0] j := by
  intro j hj
  rcases (show j = 0 ∨ j = 1 ∨ j = 2 by omega) with rfl | rfl | rfl <;> rfl
theorem nf_X10 : ∀ j, j < 46 → defaultValue (tyX10 j) = vp_V [.int 0, .null, .null, .null, .null, .int 0, .null, .int 0, .int 0, .int 0, .int 0, .int 0, .int 0, .int 0, .null, .null, .null, .int 0, .int 0, .int 0, .int 0, .null, .null, .null, .null, .null, .null, .null, .null, .null, .null, .null, .null, .null, .null, .null, .int 0, .null, .int 0, .long 0, .long 0, .long 0, .null, .null, .null, .null] j := by
  intro j hj
  rcases (show j = 0 ∨ j = 1 ∨ j = 2 ∨ j = 3 ∨ j = 4 ∨ j = 5 ∨ j = 6 ∨ j = 7 ∨ j = 8 ∨ j = 9 ∨ j = 10 ∨ j = 11 ∨ j = 12 ∨ j = 13 ∨ j = 14 ∨ j = 15 ∨ j = 16 ∨ j = 17 ∨ j = 18 ∨ j = 19 ∨ j = 20 ∨ j = 21 ∨ j = 22 ∨ j = 23 ∨ j = 24 ∨ j = 25 ∨ j = 26 ∨ j = 27 ∨ j = 28 ∨ j = 29 ∨ j = 30 ∨ j = 31 ∨ j = 32 ∨ j = 33 ∨ j = 34 ∨ j = 35 ∨ j = 36 ∨ j = 37 ∨ j = 38 ∨ j = 39 ∨ j = 40 ∨ j = 41 ∨ j = 42 ∨ j = 43 ∨ j = 44 ∨ j = 45 by omega) with rfl | rfl | rfl | rfl | rfl | rfl | rfl | rfl | rfl | rfl | rfl | rfl | rfl | rfl | rfl | rfl | rfl | rfl | rfl | rfl | rfl | rfl | rfl | rfl | rfl | rfl | rfl | rfl | rfl | rfl | rfl | rfl | rfl | rfl | rfl | rfl | rfl | rfl | rfl | rfl | rfl | rfl | rfl | rfl | rfl | rfl <;> rfl
theorem nf_X2 : ∀ j, j < 2 → defaultValue (tyX2 j) = vp_V [.long 0, .long 0] j := by
  intro j hj
  rcases (show j = 0 ∨ j = 1 by omega) with rfl | rfl <;> rfl
theorem nf_X3 : ∀ j, j < 3 → defaultValue (tyX3 j) = vp_V [.long 0, .long 0, .long 0] j := by
  intro j hj
  rcases (show j = 0 ∨ j = 1 ∨ j = 2 by omega) with rfl | rfl | rfl <;> rfl
theorem nf_X4 : ∀ j, j < 7 → defaultValue (tyX4 j) = vp_V [.int 0, .int 0, .null, .null, .int 0, .int 0, .int 0] j := by
  intro j hj
  rcases (show j = 0 ∨ j = 1 ∨ j = 2 ∨ j = 3 ∨ j = 4 ∨ j = 5 ∨ j = 6 by omega) with rfl | rfl | rfl | rfl | rfl | rfl | rfl <;> rfl
theorem nf_X5 : ∀ j, j < 4 → defaultValue (tyX5 j) = vp_V [.null, .null, .null, .null] j := by
  intro j hj
  rcases (show j = 0 ∨ j = 1 ∨ j = 2 ∨ j = 3 by omega) with rfl | rfl | rfl | rfl <;> rfl
theorem nf_X6 : ∀ j, j < 12 → defaultValue (tyX6 j) = vp_V [.null, .null, .null, .null, .null, .null, .null, .null, .null, .null, .long 0, .int 0] j := by
  intro j hj
  rcases (show j = 0 ∨ j = 1 ∨ j = 2 ∨ j = 3 ∨ j = 4 ∨ j = 5 ∨ j = 6 ∨ j = 7 ∨ j = 8 ∨ j = 9 ∨ j = 10 ∨ j = 11 by omega) with rfl | rfl | rfl | rfl | rfl | rfl | rfl | rfl | rfl | rfl | rfl | rfl <;> rfl
theorem nf_X7 : ∀ j, j < 6 → defaultValue (tyX7 j) = vp_V [.int 0, .int 0, .long 0, .int 0, .int 0, .int 0] j := by
  intro j hj
  rcases (show j = 0 ∨ j = 1 ∨ j = 2 ∨ j = 3 ∨ j = 4 ∨ j = 5 by omega) with rfl | rfl | rfl | rfl | rfl | rfl <;> rfl
theorem nf_X8 : ∀ j, j < 2 → defaultValue (tyX8 j) = vp_V [.null, .int 0] j := by
  intro j hj
  rcases (show j = 0 ∨ j = 1 by omega) with rfl | rfl <;> rfl
theorem nf_X9 : ∀ j, j < 11 → defaultValue (tyX9 j) = vp_V [.null, .null, .null, .null, .null, .null, .null, .null, .null, .null, .null] j := by
  intro j hj
  rcases (show j = 0 ∨ j = 1 ∨ j = 2 ∨ j = 3 ∨ j = 4 ∨ j = 5 ∨ j = 6 ∨ j = 7 ∨ j = 8 ∨ j = 9 ∨ j = 10 by omega) with rfl | rfl | rfl | rfl | rfl | rfl | rfl | rfl | rfl | rfl | rfl <;> rfl
abbrev z0 : Nat → Nat := fun _ => 0
