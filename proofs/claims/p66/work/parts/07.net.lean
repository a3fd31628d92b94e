theorem wp_22 : Cond.selects "WidowRoads$Supposal" yX7_asNow yX7_asNow ∈ GW := GW_p 22 (by decide +kernel) rfl
theorem wp_24 : Cond.selects "WidowRoads$Story" yX6_tell yX6_tell ∈ GW := GW_p 24 (by decide +kernel) rfl
theorem wp_43 : Cond.selects "WidowRoads$Net" yX3_spread yX3_spread ∈ GW := GW_p 43 (by decide +kernel) rfl
theorem wp_44 : Cond.selects "WidowRoads$Story" yX6_pegsIn yX6_pegsIn ∈ GW := GW_p 44 (by decide +kernel) rfl
theorem wp_46 : Cond.selects "WidowRoads$Net" yX3_sidesJoined yX3_sidesJoined ∈ GW := GW_p 46 (by decide +kernel) rfl
theorem wp_49 : Cond.selects "WidowRoads$Net" yX3_reach yX3_reach ∈ GW := GW_p 49 (by decide +kernel) rfl
theorem wp_68 : Cond.selects "WidowRoads$Fraction" yX2_reduce yX2_reduce ∈ GW := GW_p 68 (by decide +kernel) rfl
theorem w_7 : Jvm.Cond.initialized "WidowRoads$Evenings" ∈ GW := GW_t 7 (by decide +kernel) rfl
theorem w_8 : Jvm.Cond.initialized "WidowRoads$Net" ∈ GW := GW_t 8 (by decide +kernel) rfl
theorem w_10 : Jvm.Cond.initialized "WidowRoads$Fraction" ∈ GW := GW_t 10 (by decide +kernel) rfl
theorem w_19 : Jvm.Cond.initialized "java/lang/Integer" ∈ GW := GW_t 19 (by decide +kernel) rfl
theorem w_288 : Jvm.Cond.fieldLink "WidowRoads$Evenings" (9 : Nat) "WidowRoads$Evenings" "roads" "[J" ∈ GW := GW_t 288 (by decide +kernel) rfl
theorem w_289 : Jvm.Cond.fieldLink "WidowRoads$Evenings" (15 : Nat) "WidowRoads$Evenings" "pegs" "[I" ∈ GW := GW_t 289 (by decide +kernel) rfl
theorem w_291 : Jvm.Cond.fieldLink "WidowRoads$Evenings" (19 : Nat) "WidowRoads$Evenings" "known" "Z" ∈ GW := GW_t 291 (by decide +kernel) rfl
theorem w_306 : Jvm.Cond.fieldLink "WidowRoads$Net" (15 : Nat) "WidowRoads$Net" "cells" "J" ∈ GW := GW_t 306 (by decide +kernel) rfl
theorem w_307 : Jvm.Cond.fieldLink "WidowRoads$Net" (24 : Nat) "WidowRoads$Net" "across" "J" ∈ GW := GW_t 307 (by decide +kernel) rfl
theorem w_308 : Jvm.Cond.fieldLink "WidowRoads$Net" (29 : Nat) "WidowRoads$Net" "down" "J" ∈ GW := GW_t 308 (by decide +kernel) rfl
theorem w_344 : Jvm.Cond.fieldLink "WidowRoads$Fraction" (19 : Nat) "WidowRoads$Fraction" "above" "J" ∈ GW := GW_t 344 (by decide +kernel) rfl
theorem w_345 : Jvm.Cond.fieldLink "WidowRoads$Fraction" (7 : Nat) "WidowRoads$Fraction" "below" "J" ∈ GW := GW_t 345 (by decide +kernel) rfl
theorem w_575 : Jvm.Cond.instanceMethod ({ cls := "WidowRoads$Supposal", name := "asNow", desc := "(LWidowRoads$Colony;)V" } : Jvm.MethodName) ∈ GW := GW_t 575 (by decide +kernel) rfl
theorem w_576 : Jvm.Cond.code ({ cls := "WidowRoads$Supposal", name := "asNow", desc := "(LWidowRoads$Colony;)V" } : Jvm.MethodName) prog_9_method_2_code (2 : Nat) (Option.none : Option Jvm.ClassFile.FieldType) ∈ GW := GW_t 576 (by decide +kernel) rfl
theorem w_584 : Jvm.Cond.instanceMethod ({ cls := "WidowRoads$Story", name := "tell", desc := "(LWidowRoads$Colony;LWidowRoads$Supposal;)V" } : Jvm.MethodName) ∈ GW := GW_t 584 (by decide +kernel) rfl
theorem w_585 : Jvm.Cond.code ({ cls := "WidowRoads$Story", name := "tell", desc := "(LWidowRoads$Colony;LWidowRoads$Supposal;)V" } : Jvm.MethodName) prog_8_method_2_code (5 : Nat) (Option.none : Option Jvm.ClassFile.FieldType) ∈ GW := GW_t 585 (by decide +kernel) rfl
theorem w_746 : Jvm.Cond.constantLong "WidowRoads$Net" (31 : Nat) (9187201950435737471 : Int64) ∈ GW := GW_t 746 (by decide +kernel) rfl
theorem w_753 : Jvm.Cond.methodLink "WidowRoads$Net" (37 : Nat) ({ cls := "WidowRoads$Net", name := "spread", desc := "(J)J" } : Jvm.MethodName) ∈ GW := GW_t 753 (by decide +kernel) rfl
theorem w_755 : Jvm.Cond.instanceMethod ({ cls := "WidowRoads$Net", name := "spread", desc := "(J)J" } : Jvm.MethodName) ∈ GW := GW_t 755 (by decide +kernel) rfl
theorem w_756 : Jvm.Cond.code ({ cls := "WidowRoads$Net", name := "spread", desc := "(J)J" } : Jvm.MethodName) prog_5_method_4_code (11 : Nat) (Option.some Jvm.ClassFile.FieldType.long) ∈ GW := GW_t 756 (by decide +kernel) rfl
theorem w_771 : Jvm.Cond.instanceMethod ({ cls := "WidowRoads$Story", name := "pegsIn", desc := "(I)I" } : Jvm.MethodName) ∈ GW := GW_t 771 (by decide +kernel) rfl
theorem w_772 : Jvm.Cond.code ({ cls := "WidowRoads$Story", name := "pegsIn", desc := "(I)I" } : Jvm.MethodName) prog_8_method_14_code (2 : Nat) (Option.some Jvm.ClassFile.FieldType.int) ∈ GW := GW_t 772 (by decide +kernel) rfl
theorem w_784 : Jvm.Cond.instanceMethod ({ cls := "WidowRoads$Net", name := "sidesJoined", desc := "(I)I" } : Jvm.MethodName) ∈ GW := GW_t 784 (by decide +kernel) rfl
theorem w_785 : Jvm.Cond.code ({ cls := "WidowRoads$Net", name := "sidesJoined", desc := "(I)I" } : Jvm.MethodName) prog_5_method_9_code (5 : Nat) (Option.some Jvm.ClassFile.FieldType.int) ∈ GW := GW_t 785 (by decide +kernel) rfl
theorem w_796 : Jvm.Cond.methodLink "WidowRoads$Net" (62 : Nat) ({ cls := "WidowRoads$Net", name := "sidesJoined", desc := "(I)I" } : Jvm.MethodName) ∈ GW := GW_t 796 (by decide +kernel) rfl
theorem w_797 : Jvm.Cond.methodLink "WidowRoads$Net" (66 : Nat) ({ cls := "java/lang/Integer", name := "bitCount", desc := "(I)I" } : Jvm.MethodName) ∈ GW := GW_t 797 (by decide +kernel) rfl
theorem w_798 : Jvm.Cond.static ({ cls := "java/lang/Integer", name := "bitCount", desc := "(I)I" } : Jvm.MethodName) ∈ GW := GW_t 798 (by decide +kernel) rfl
theorem w_799 : Jvm.Cond.code ({ cls := "java/lang/Integer", name := "bitCount", desc := "(I)I" } : Jvm.MethodName) prog_13_method_49_code (1 : Nat) (Option.some Jvm.ClassFile.FieldType.int) ∈ GW := GW_t 799 (by decide +kernel) rfl
theorem w_812 : Jvm.Cond.methodLink "WidowRoads$Net" (45 : Nat) ({ cls := "WidowRoads$Net", name := "reach", desc := "(I)J" } : Jvm.MethodName) ∈ GW := GW_t 812 (by decide +kernel) rfl
theorem w_814 : Jvm.Cond.instanceMethod ({ cls := "WidowRoads$Net", name := "reach", desc := "(I)J" } : Jvm.MethodName) ∈ GW := GW_t 814 (by decide +kernel) rfl
theorem w_815 : Jvm.Cond.code ({ cls := "WidowRoads$Net", name := "reach", desc := "(I)J" } : Jvm.MethodName) prog_5_method_5_code (7 : Nat) (Option.some Jvm.ClassFile.FieldType.long) ∈ GW := GW_t 815 (by decide +kernel) rfl
theorem w_816 : Jvm.Cond.constantLong "WidowRoads$Net" (48 : Nat) (-1 : Int64) ∈ GW := GW_t 816 (by decide +kernel) rfl
theorem w_1030 : Jvm.Cond.methodLink "WidowRoads$Evenings" (52 : Nat) ({ cls := "java/lang/Integer", name := "bitCount", desc := "(I)I" } : Jvm.MethodName) ∈ GW := GW_t 1030 (by decide +kernel) rfl
theorem w_1031 : Jvm.Cond.methodLink "WidowRoads$Evenings" (57 : Nat) ({ cls := "WidowRoads$Evenings", name := "orders", desc := "(I)J" } : Jvm.MethodName) ∈ GW := GW_t 1031 (by decide +kernel) rfl
theorem w_1032 : Jvm.Cond.static ({ cls := "WidowRoads$Evenings", name := "orders", desc := "(I)J" } : Jvm.MethodName) ∈ GW := GW_t 1032 (by decide +kernel) rfl
theorem w_1033 : Jvm.Cond.code ({ cls := "WidowRoads$Evenings", name := "orders", desc := "(I)J" } : Jvm.MethodName) prog_3_method_4_code (4 : Nat) (Option.some Jvm.ClassFile.FieldType.long) ∈ GW := GW_t 1033 (by decide +kernel) rfl
theorem w_1036 : Jvm.Cond.instanceMethod ({ cls := "WidowRoads$Fraction", name := "reduce", desc := "(JJ)V" } : Jvm.MethodName) ∈ GW := GW_t 1036 (by decide +kernel) rfl
theorem w_1037 : Jvm.Cond.code ({ cls := "WidowRoads$Fraction", name := "reduce", desc := "(JJ)V" } : Jvm.MethodName) prog_4_method_2_code (12 : Nat) (Option.none : Option Jvm.ClassFile.FieldType) ∈ GW := GW_t 1037 (by decide +kernel) rfl
theorem w_1038 : Jvm.Cond.methodLink "WidowRoads$Fraction" (13 : Nat) ({ cls := "java/lang/Math", name := "abs", desc := "(J)J" } : Jvm.MethodName) ∈ GW := GW_t 1038 (by decide +kernel) rfl
theorem w_1039 : Jvm.Cond.static ({ cls := "java/lang/Math", name := "abs", desc := "(J)J" } : Jvm.MethodName) ∈ GW := GW_t 1039 (by decide +kernel) rfl
theorem w_1040 : Jvm.Cond.code ({ cls := "java/lang/Math", name := "abs", desc := "(J)J" } : Jvm.MethodName) prog_15_method_61_code (2 : Nat) (Option.some Jvm.ClassFile.FieldType.long) ∈ GW := GW_t 1040 (by decide +kernel) rfl
theorem w_1079 : Jvm.Cond.methodLink "WidowRoads$Evenings" (71 : Nat) ({ cls := "WidowRoads$Evenings", name := "weight", desc := "(LWidowRoads$Colony;I)J" } : Jvm.MethodName) ∈ GW := GW_t 1079 (by decide +kernel) rfl
theorem w_1080 : Jvm.Cond.static ({ cls := "WidowRoads$Evenings", name := "weight", desc := "(LWidowRoads$Colony;I)J" } : Jvm.MethodName) ∈ GW := GW_t 1080 (by decide +kernel) rfl
theorem w_1081 : Jvm.Cond.code ({ cls := "WidowRoads$Evenings", name := "weight", desc := "(LWidowRoads$Colony;I)J" } : Jvm.MethodName) prog_3_method_7_code (3 : Nat) (Option.some Jvm.ClassFile.FieldType.long) ∈ GW := GW_t 1081 (by decide +kernel) rfl
theorem w_1082 : Jvm.Cond.methodLink "WidowRoads$Evenings" (75 : Nat) ({ cls := "WidowRoads$Evenings", name := "power", desc := "(II)J" } : Jvm.MethodName) ∈ GW := GW_t 1082 (by decide +kernel) rfl
theorem w_1083 : Jvm.Cond.static ({ cls := "WidowRoads$Evenings", name := "power", desc := "(II)J" } : Jvm.MethodName) ∈ GW := GW_t 1083 (by decide +kernel) rfl
theorem w_1084 : Jvm.Cond.code ({ cls := "WidowRoads$Evenings", name := "power", desc := "(II)J" } : Jvm.MethodName) prog_3_method_8_code (5 : Nat) (Option.some Jvm.ClassFile.FieldType.long) ∈ GW := GW_t 1084 (by decide +kernel) rfl
theorem iG_X1 : ∀ w ∈ wsX10, w ∈ GW := GW_in [293, 295, 297] (by decide +kernel) (by decide +kernel)
theorem iG_X2 : ∀ w ∈ wsX20, w ∈ GW := GW_in [346, 348] (by decide +kernel) (by decide +kernel)
theorem iG_X3 : ∀ w ∈ wsX30, w ∈ GW := GW_in [309, 311, 313] (by decide +kernel) (by decide +kernel)
theorem nw_60 : Jvm.Cond.fieldLinkNest "WidowRoads$Evenings" (45 : Nat) "WidowRoads$Colony" "span" "I" "WidowRoads" ∈ tables_1 := List.mem_of_getElem? (i := 60) (by decide +kernel)
theorem nw_69 : Jvm.Cond.fieldLinkNest "WidowRoads$Evenings" (79 : Nat) "WidowRoads$Colony" "odds" "I" "WidowRoads" ∈ tables_1 := List.mem_of_getElem? (i := 69) (by decide +kernel)
theorem nw_84 : Jvm.Cond.fieldLinkNest "WidowRoads$Evenings" (23 : Nat) "WidowRoads$Colony" "widows" "I" "WidowRoads" ∈ tables_1 := List.mem_of_getElem? (i := 84) (by decide +kernel)
theorem nw_202 : Jvm.Cond.fieldLinkNest "WidowRoads$Evenings" (35 : Nat) "WidowRoads$Supposal" "walkers" "I" "WidowRoads" ∈ tables_1 := List.mem_of_getElem? (i := 202) (by decide +kernel)
theorem nw_247 : Jvm.Cond.fieldLinkNest "WidowRoads$Net" (9 : Nat) "WidowRoads$Story" "roads" "[J" "WidowRoads" ∈ tables_1 := List.mem_of_getElem? (i := 247) (by decide +kernel)
theorem nw_248 : Jvm.Cond.fieldLinkNest "WidowRoads$Evenings" (44 : Nat) "WidowRoads$Story" "roads" "[J" "WidowRoads" ∈ tables_1 := List.mem_of_getElem? (i := 248) (by decide +kernel)
theorem nw_251 : Jvm.Cond.fieldLinkNest "WidowRoads$Net" (21 : Nat) "WidowRoads$Story" "across" "[J" "WidowRoads" ∈ tables_1 := List.mem_of_getElem? (i := 251) (by decide +kernel)
theorem nw_253 : Jvm.Cond.fieldLinkNest "WidowRoads$Net" (26 : Nat) "WidowRoads$Story" "down" "[J" "WidowRoads" ∈ tables_1 := List.mem_of_getElem? (i := 253) (by decide +kernel)
theorem nw_751 : Jvm.Cond.methodLinkNest "WidowRoads$Net" (33 : Nat) ({ cls := "WidowRoads", name := "bit", desc := "(I)J" } : Jvm.MethodName) "WidowRoads" ∈ tables_1 := List.mem_of_getElem? (i := 751) (by decide +kernel)
theorem nw_752 : Jvm.Cond.methodLinkNest "WidowRoads$Net" (50 : Nat) ({ cls := "WidowRoads", name := "has", desc := "(JI)Z" } : Jvm.MethodName) "WidowRoads" ∈ tables_1 := List.mem_of_getElem? (i := 752) (by decide +kernel)
theorem nw_786 : Jvm.Cond.methodLinkNest "WidowRoads$Net" (54 : Nat) ({ cls := "WidowRoads", name := "oneIf", desc := "(Z)I" } : Jvm.MethodName) "WidowRoads" ∈ tables_1 := List.mem_of_getElem? (i := 786) (by decide +kernel)
theorem nw_787 : Jvm.Cond.methodLinkNest "WidowRoads$Net" (58 : Nat) ({ cls := "WidowRoads", name := "beside", desc := "(II)I" } : Jvm.MethodName) "WidowRoads" ∈ tables_1 := List.mem_of_getElem? (i := 787) (by decide +kernel)
theorem nw_811 : Jvm.Cond.methodLinkNest "WidowRoads$Net" (41 : Nat) ({ cls := "WidowRoads", name := "leastOf", desc := "(J)I" } : Jvm.MethodName) "WidowRoads" ∈ tables_1 := List.mem_of_getElem? (i := 811) (by decide +kernel)
theorem nw_1015 : Jvm.Cond.methodLinkNest "WidowRoads$Evenings" (29 : Nat) ({ cls := "WidowRoads$Supposal", name := "asNow", desc := "(LWidowRoads$Colony;)V" } : Jvm.MethodName) "WidowRoads" ∈ tables_1 := List.mem_of_getElem? (i := 1015) (by decide +kernel)
theorem nw_1016 : Jvm.Cond.methodLinkNest "WidowRoads$Evenings" (38 : Nat) ({ cls := "WidowRoads$Story", name := "tell", desc := "(LWidowRoads$Colony;LWidowRoads$Supposal;)V" } : Jvm.MethodName) "WidowRoads" ∈ tables_1 := List.mem_of_getElem? (i := 1016) (by decide +kernel)
theorem nw_1017 : Jvm.Cond.methodLinkNest "WidowRoads$Evenings" (48 : Nat) ({ cls := "WidowRoads$Story", name := "pegsIn", desc := "(I)I" } : Jvm.MethodName) "WidowRoads" ∈ tables_1 := List.mem_of_getElem? (i := 1017) (by decide +kernel)
theorem nw_1034 : Jvm.Cond.methodLinkNest "WidowRoads$Evenings" (61 : Nat) ({ cls := "WidowRoads$Fraction", name := "reduce", desc := "(JJ)V" } : Jvm.MethodName) "WidowRoads" ∈ tables_1 := List.mem_of_getElem? (i := 1034) (by decide +kernel)
theorem nw_1078 : Jvm.Cond.methodLinkNest "WidowRoads$Evenings" (67 : Nat) ({ cls := "WidowRoads", name := "has", desc := "(JI)Z" } : Jvm.MethodName) "WidowRoads" ∈ tables_1 := List.mem_of_getElem? (i := 1078) (by decide +kernel)
theorem hd_J6_bitCount_0f7a4 : yJ6_bitCount_0f7a4.cls ≠ "java/lang/invoke/MethodHandle" ∧ yJ6_bitCount_0f7a4.cls ≠ "java/lang/invoke/VarHandle" ∧ (parseMethodDescriptor yJ6_bitCount_0f7a4.desc).map (fun d => d.parameters.length) = some 1 := by decide +kernel
theorem hd_X1_orders : yX1_orders.cls ≠ "java/lang/invoke/MethodHandle" ∧ yX1_orders.cls ≠ "java/lang/invoke/VarHandle" ∧ (parseMethodDescriptor yX1_orders.desc).map (fun d => d.parameters.length) = some 1 := by decide +kernel
theorem hd_X1_power : yX1_power.cls ≠ "java/lang/invoke/MethodHandle" ∧ yX1_power.cls ≠ "java/lang/invoke/VarHandle" ∧ (parseMethodDescriptor yX1_power.desc).map (fun d => d.parameters.length) = some 2 := by decide +kernel
theorem hd_X1_weight : yX1_weight.cls ≠ "java/lang/invoke/MethodHandle" ∧ yX1_weight.cls ≠ "java/lang/invoke/VarHandle" ∧ (parseMethodDescriptor yX1_weight.desc).map (fun d => d.parameters.length) = some 2 := by decide +kernel
theorem hd_X2_reduce : yX2_reduce.cls ≠ "java/lang/invoke/MethodHandle" ∧ yX2_reduce.cls ≠ "java/lang/invoke/VarHandle" ∧ (parseMethodDescriptor yX2_reduce.desc).map (fun d => d.parameters.length) = some 2 := by decide +kernel
theorem hd_X3_reach : yX3_reach.cls ≠ "java/lang/invoke/MethodHandle" ∧ yX3_reach.cls ≠ "java/lang/invoke/VarHandle" ∧ (parseMethodDescriptor yX3_reach.desc).map (fun d => d.parameters.length) = some 1 := by decide +kernel
theorem hd_X3_sidesJoined : yX3_sidesJoined.cls ≠ "java/lang/invoke/MethodHandle" ∧ yX3_sidesJoined.cls ≠ "java/lang/invoke/VarHandle" ∧ (parseMethodDescriptor yX3_sidesJoined.desc).map (fun d => d.parameters.length) = some 1 := by decide +kernel
theorem hd_X3_spread : yX3_spread.cls ≠ "java/lang/invoke/MethodHandle" ∧ yX3_spread.cls ≠ "java/lang/invoke/VarHandle" ∧ (parseMethodDescriptor yX3_spread.desc).map (fun d => d.parameters.length) = some 1 := by decide +kernel
theorem hd_X6_pegsIn : yX6_pegsIn.cls ≠ "java/lang/invoke/MethodHandle" ∧ yX6_pegsIn.cls ≠ "java/lang/invoke/VarHandle" ∧ (parseMethodDescriptor yX6_pegsIn.desc).map (fun d => d.parameters.length) = some 1 := by decide +kernel
theorem hd_X6_tell : yX6_tell.cls ≠ "java/lang/invoke/MethodHandle" ∧ yX6_tell.cls ≠ "java/lang/invoke/VarHandle" ∧ (parseMethodDescriptor yX6_tell.desc).map (fun d => d.parameters.length) = some 2 := by decide +kernel
theorem hd_X7_asNow : yX7_asNow.cls ≠ "java/lang/invoke/MethodHandle" ∧ yX7_asNow.cls ≠ "java/lang/invoke/VarHandle" ∧ (parseMethodDescriptor yX7_asNow.desc).map (fun d => d.parameters.length) = some 1 := by decide +kernel
theorem ki_10 : (10 : Int32).toInt = 10 := by decide
theorem ki_100 : (100 : Int32).toInt = 100 := by decide
theorem dX1_chanceOfRoad_0 : decode cX1_chanceOfRoad 0 = .ok (.lconst 0, 1) := by decide +kernel
theorem dX1_chanceOfRoad_1 : decode cX1_chanceOfRoad 1 = .ok (.lstore 4, 2) := by decide +kernel
theorem dX1_chanceOfRoad_3 : decode cX1_chanceOfRoad 3 = .ok (.iconst 0, 1) := by decide +kernel
theorem dX1_chanceOfRoad_4 : decode cX1_chanceOfRoad 4 = .ok (.istore 6, 2) := by decide +kernel
theorem dX1_chanceOfRoad_6 : decode cX1_chanceOfRoad 6 = .ok (.iload 6, 2) := by decide +kernel
theorem dX1_chanceOfRoad_8 : decode cX1_chanceOfRoad 8 = .ok (.iconst 1, 1) := by decide +kernel
theorem dX1_chanceOfRoad_9 : decode cX1_chanceOfRoad 9 = .ok (.aload_n 1, 1) := by decide +kernel
theorem dX1_chanceOfRoad_10 : decode cX1_chanceOfRoad 10 = .ok (.getfield 23, 3) := by decide +kernel
theorem dX1_chanceOfRoad_13 : decode cX1_chanceOfRoad 13 = .ok (.ishl, 1) := by decide +kernel
theorem dX1_chanceOfRoad_14 : decode cX1_chanceOfRoad 14 = .ok (.if_icmp .ge 34, 3) := by decide +kernel
theorem dX1_chanceOfRoad_17 : decode cX1_chanceOfRoad 17 = .ok (.aload_n 0, 1) := by decide +kernel
theorem dX1_chanceOfRoad_18 : decode cX1_chanceOfRoad 18 = .ok (.getfield 9, 3) := by decide +kernel
theorem dX1_chanceOfRoad_21 : decode cX1_chanceOfRoad 21 = .ok (.iload 6, 2) := by decide +kernel
theorem dX1_chanceOfRoad_23 : decode cX1_chanceOfRoad 23 = .ok (.laload, 1) := by decide +kernel
theorem dX1_chanceOfRoad_24 : decode cX1_chanceOfRoad 24 = .ok (.iload_n 2, 1) := by decide +kernel
theorem dX1_chanceOfRoad_25 : decode cX1_chanceOfRoad 25 = .ok (.invokestatic 67, 3) := by decide +kernel
theorem dX1_chanceOfRoad_28 : decode cX1_chanceOfRoad 28 = .ok (.ifCond .eq 14, 3) := by decide +kernel
theorem dX1_chanceOfRoad_31 : decode cX1_chanceOfRoad 31 = .ok (.lload 4, 2) := by decide +kernel
theorem dX1_chanceOfRoad_33 : decode cX1_chanceOfRoad 33 = .ok (.aload_n 1, 1) := by decide +kernel
theorem dX1_chanceOfRoad_34 : decode cX1_chanceOfRoad 34 = .ok (.iload 6, 2) := by decide +kernel
theorem dX1_chanceOfRoad_36 : decode cX1_chanceOfRoad 36 = .ok (.invokestatic 71, 3) := by decide +kernel
theorem dX1_chanceOfRoad_39 : decode cX1_chanceOfRoad 39 = .ok (.ladd, 1) := by decide +kernel
theorem dX1_chanceOfRoad_40 : decode cX1_chanceOfRoad 40 = .ok (.lstore 4, 2) := by decide +kernel
theorem dX1_chanceOfRoad_42 : decode cX1_chanceOfRoad 42 = .ok (.iinc 6 1, 3) := by decide +kernel
theorem dX1_chanceOfRoad_45 : decode cX1_chanceOfRoad 45 = .ok (.goto (-39), 3) := by decide +kernel
theorem dX1_chanceOfRoad_48 : decode cX1_chanceOfRoad 48 = .ok (.aload_n 3, 1) := by decide +kernel
theorem dX1_chanceOfRoad_49 : decode cX1_chanceOfRoad 49 = .ok (.lload 4, 2) := by decide +kernel
theorem dX1_chanceOfRoad_51 : decode cX1_chanceOfRoad 51 = .ok (.bipush 10, 2) := by decide +kernel
theorem dX1_chanceOfRoad_53 : decode cX1_chanceOfRoad 53 = .ok (.aload_n 1, 1) := by decide +kernel
theorem dX1_chanceOfRoad_54 : decode cX1_chanceOfRoad 54 = .ok (.getfield 23, 3) := by decide +kernel
theorem dX1_chanceOfRoad_57 : decode cX1_chanceOfRoad 57 = .ok (.invokestatic 75, 3) := by decide +kernel
theorem dX1_chanceOfRoad_60 : decode cX1_chanceOfRoad 60 = .ok (.invokevirtual 61, 3) := by decide +kernel
theorem dX1_chanceOfRoad_63 : decode cX1_chanceOfRoad 63 = .ok (.return_, 1) := by decide +kernel
theorem dX1_know_0 : decode cX1_know 0 = .ok (.aload_n 0, 1) := by decide +kernel
theorem dX1_know_1 : decode cX1_know 1 = .ok (.getfield 19, 3) := by decide +kernel
theorem dX1_know_4 : decode cX1_know 4 = .ok (.ifCond .eq 4, 3) := by decide +kernel
theorem dX1_know_7 : decode cX1_know 7 = .ok (.return_, 1) := by decide +kernel
theorem dX1_know_8 : decode cX1_know 8 = .ok (.iconst 0, 1) := by decide +kernel
theorem dX1_know_9 : decode cX1_know 9 = .ok (.istore 4, 2) := by decide +kernel
theorem dX1_know_11 : decode cX1_know 11 = .ok (.iload 4, 2) := by decide +kernel
theorem dX1_know_13 : decode cX1_know 13 = .ok (.iconst 1, 1) := by decide +kernel
theorem dX1_know_14 : decode cX1_know 14 = .ok (.aload_n 1, 1) := by decide +kernel
theorem dX1_know_15 : decode cX1_know 15 = .ok (.getfield 23, 3) := by decide +kernel
theorem dX1_know_18 : decode cX1_know 18 = .ok (.ishl, 1) := by decide +kernel
theorem dX1_know_19 : decode cX1_know 19 = .ok (.if_icmp .ge 62, 3) := by decide +kernel
theorem dX1_know_22 : decode cX1_know 22 = .ok (.aload_n 2, 1) := by decide +kernel
theorem dX1_know_23 : decode cX1_know 23 = .ok (.aload_n 1, 1) := by decide +kernel
theorem dX1_know_24 : decode cX1_know 24 = .ok (.invokevirtual 29, 3) := by decide +kernel
theorem dX1_know_27 : decode cX1_know 27 = .ok (.aload_n 2, 1) := by decide +kernel
theorem dX1_know_28 : decode cX1_know 28 = .ok (.dup, 1) := by decide +kernel
theorem dX1_know_29 : decode cX1_know 29 = .ok (.getfield 35, 3) := by decide +kernel
theorem dX1_know_32 : decode cX1_know 32 = .ok (.iload 4, 2) := by decide +kernel
theorem dX1_know_34 : decode cX1_know 34 = .ok (.iand, 1) := by decide +kernel
theorem dX1_know_35 : decode cX1_know 35 = .ok (.putfield 35, 3) := by decide +kernel
theorem dX1_know_38 : decode cX1_know 38 = .ok (.aload_n 3, 1) := by decide +kernel
theorem dX1_know_39 : decode cX1_know 39 = .ok (.aload_n 1, 1) := by decide +kernel
theorem dX1_know_40 : decode cX1_know 40 = .ok (.aload_n 2, 1) := by decide +kernel
theorem dX1_know_41 : decode cX1_know 41 = .ok (.invokevirtual 38, 3) := by decide +kernel
theorem dX1_know_44 : decode cX1_know 44 = .ok (.aload_n 0, 1) := by decide +kernel
theorem dX1_know_45 : decode cX1_know 45 = .ok (.getfield 9, 3) := by decide +kernel
theorem dX1_know_48 : decode cX1_know 48 = .ok (.iload 4, 2) := by decide +kernel
theorem dX1_know_50 : decode cX1_know 50 = .ok (.aload_n 3, 1) := by decide +kernel
theorem dX1_know_51 : decode cX1_know 51 = .ok (.getfield 44, 3) := by decide +kernel
theorem dX1_know_54 : decode cX1_know 54 = .ok (.aload_n 1, 1) := by decide +kernel
theorem dX1_know_55 : decode cX1_know 55 = .ok (.getfield 45, 3) := by decide +kernel
theorem dX1_know_58 : decode cX1_know 58 = .ok (.laload, 1) := by decide +kernel
theorem dX1_know_59 : decode cX1_know 59 = .ok (.lastore, 1) := by decide +kernel
theorem dX1_know_60 : decode cX1_know 60 = .ok (.aload_n 0, 1) := by decide +kernel
theorem dX1_know_61 : decode cX1_know 61 = .ok (.getfield 15, 3) := by decide +kernel
theorem dX1_know_64 : decode cX1_know 64 = .ok (.iload 4, 2) := by decide +kernel
theorem dX1_know_66 : decode cX1_know 66 = .ok (.aload_n 3, 1) := by decide +kernel
theorem dX1_know_67 : decode cX1_know 67 = .ok (.aload_n 1, 1) := by decide +kernel
theorem dX1_know_68 : decode cX1_know 68 = .ok (.getfield 45, 3) := by decide +kernel
theorem dX1_know_71 : decode cX1_know 71 = .ok (.invokevirtual 48, 3) := by decide +kernel
theorem dX1_know_74 : decode cX1_know 74 = .ok (.iastore, 1) := by decide +kernel
theorem dX1_know_75 : decode cX1_know 75 = .ok (.iinc 4 1, 3) := by decide +kernel
theorem dX1_know_78 : decode cX1_know 78 = .ok (.goto (-67), 3) := by decide +kernel
theorem dX1_know_81 : decode cX1_know 81 = .ok (.aload_n 0, 1) := by decide +kernel
theorem dX1_know_82 : decode cX1_know 82 = .ok (.iconst 1, 1) := by decide +kernel
theorem dX1_know_83 : decode cX1_know 83 = .ok (.putfield 19, 3) := by decide +kernel
theorem dX1_know_86 : decode cX1_know 86 = .ok (.return_, 1) := by decide +kernel
theorem dX1_meanOfPegs_0 : decode cX1_meanOfPegs 0 = .ok (.lconst 0, 1) := by decide +kernel
theorem dX1_meanOfPegs_1 : decode cX1_meanOfPegs 1 = .ok (.lstore_n 3, 1) := by decide +kernel
theorem dX1_meanOfPegs_2 : decode cX1_meanOfPegs 2 = .ok (.iconst 0, 1) := by decide +kernel
theorem dX1_meanOfPegs_3 : decode cX1_meanOfPegs 3 = .ok (.istore 5, 2) := by decide +kernel
theorem dX1_meanOfPegs_5 : decode cX1_meanOfPegs 5 = .ok (.iload 5, 2) := by decide +kernel
theorem dX1_meanOfPegs_7 : decode cX1_meanOfPegs 7 = .ok (.iconst 1, 1) := by decide +kernel
theorem dX1_meanOfPegs_8 : decode cX1_meanOfPegs 8 = .ok (.aload_n 1, 1) := by decide +kernel
theorem dX1_meanOfPegs_9 : decode cX1_meanOfPegs 9 = .ok (.getfield 23, 3) := by decide +kernel
theorem dX1_meanOfPegs_12 : decode cX1_meanOfPegs 12 = .ok (.ishl, 1) := by decide +kernel
theorem dX1_meanOfPegs_13 : decode cX1_meanOfPegs 13 = .ok (.if_icmp .ge 27, 3) := by decide +kernel
theorem dX1_meanOfPegs_16 : decode cX1_meanOfPegs 16 = .ok (.lload_n 3, 1) := by decide +kernel
theorem dX1_meanOfPegs_17 : decode cX1_meanOfPegs 17 = .ok (.aload_n 1, 1) := by decide +kernel
theorem dX1_meanOfPegs_18 : decode cX1_meanOfPegs 18 = .ok (.iload 5, 2) := by decide +kernel
theorem dX1_meanOfPegs_20 : decode cX1_meanOfPegs 20 = .ok (.invokestatic 71, 3) := by decide +kernel
theorem dX1_meanOfPegs_23 : decode cX1_meanOfPegs 23 = .ok (.aload_n 0, 1) := by decide +kernel
theorem dX1_meanOfPegs_24 : decode cX1_meanOfPegs 24 = .ok (.getfield 15, 3) := by decide +kernel
theorem dX1_meanOfPegs_27 : decode cX1_meanOfPegs 27 = .ok (.iload 5, 2) := by decide +kernel
theorem dX1_meanOfPegs_29 : decode cX1_meanOfPegs 29 = .ok (.iaload, 1) := by decide +kernel
theorem dX1_meanOfPegs_30 : decode cX1_meanOfPegs 30 = .ok (.i2l, 1) := by decide +kernel
theorem dX1_meanOfPegs_31 : decode cX1_meanOfPegs 31 = .ok (.lmul, 1) := by decide +kernel
theorem dX1_meanOfPegs_32 : decode cX1_meanOfPegs 32 = .ok (.ladd, 1) := by decide +kernel
theorem dX1_meanOfPegs_33 : decode cX1_meanOfPegs 33 = .ok (.lstore_n 3, 1) := by decide +kernel
theorem dX1_meanOfPegs_34 : decode cX1_meanOfPegs 34 = .ok (.iinc 5 1, 3) := by decide +kernel
theorem dX1_meanOfPegs_37 : decode cX1_meanOfPegs 37 = .ok (.goto (-32), 3) := by decide +kernel
theorem dX1_meanOfPegs_40 : decode cX1_meanOfPegs 40 = .ok (.aload_n 2, 1) := by decide +kernel
theorem dX1_meanOfPegs_41 : decode cX1_meanOfPegs 41 = .ok (.lload_n 3, 1) := by decide +kernel
theorem dX1_meanOfPegs_42 : decode cX1_meanOfPegs 42 = .ok (.bipush 10, 2) := by decide +kernel
theorem dX1_meanOfPegs_44 : decode cX1_meanOfPegs 44 = .ok (.aload_n 1, 1) := by decide +kernel
theorem dX1_meanOfPegs_45 : decode cX1_meanOfPegs 45 = .ok (.getfield 23, 3) := by decide +kernel
theorem dX1_meanOfPegs_48 : decode cX1_meanOfPegs 48 = .ok (.invokestatic 75, 3) := by decide +kernel
theorem dX1_meanOfPegs_51 : decode cX1_meanOfPegs 51 = .ok (.invokevirtual 61, 3) := by decide +kernel
theorem dX1_meanOfPegs_54 : decode cX1_meanOfPegs 54 = .ok (.return_, 1) := by decide +kernel
theorem dX1_orders_0 : decode cX1_orders 0 = .ok (.lconst 1, 1) := by decide +kernel
theorem dX1_orders_1 : decode cX1_orders 1 = .ok (.lstore_n 1, 1) := by decide +kernel
theorem dX1_orders_2 : decode cX1_orders 2 = .ok (.iconst 2, 1) := by decide +kernel
theorem dX1_orders_3 : decode cX1_orders 3 = .ok (.istore_n 3, 1) := by decide +kernel
theorem dX1_orders_4 : decode cX1_orders 4 = .ok (.iload_n 3, 1) := by decide +kernel
theorem dX1_orders_5 : decode cX1_orders 5 = .ok (.iload_n 0, 1) := by decide +kernel
theorem dX1_orders_6 : decode cX1_orders 6 = .ok (.if_icmp .gt 14, 3) := by decide +kernel
theorem dX1_orders_9 : decode cX1_orders 9 = .ok (.lload_n 1, 1) := by decide +kernel
theorem dX1_orders_10 : decode cX1_orders 10 = .ok (.iload_n 3, 1) := by decide +kernel
theorem dX1_orders_11 : decode cX1_orders 11 = .ok (.i2l, 1) := by decide +kernel
theorem dX1_orders_12 : decode cX1_orders 12 = .ok (.lmul, 1) := by decide +kernel
theorem dX1_orders_13 : decode cX1_orders 13 = .ok (.lstore_n 1, 1) := by decide +kernel
theorem dX1_orders_14 : decode cX1_orders 14 = .ok (.iinc 3 1, 3) := by decide +kernel
theorem dX1_orders_17 : decode cX1_orders 17 = .ok (.goto (-13), 3) := by decide +kernel
theorem dX1_orders_20 : decode cX1_orders 20 = .ok (.lload_n 1, 1) := by decide +kernel
theorem dX1_orders_21 : decode cX1_orders 21 = .ok (.lreturn, 1) := by decide +kernel
theorem dX1_power_0 : decode cX1_power 0 = .ok (.lconst 1, 1) := by decide +kernel
theorem dX1_power_1 : decode cX1_power 1 = .ok (.lstore_n 2, 1) := by decide +kernel
theorem dX1_power_2 : decode cX1_power 2 = .ok (.iconst 0, 1) := by decide +kernel
theorem dX1_power_3 : decode cX1_power 3 = .ok (.istore 4, 2) := by decide +kernel
theorem dX1_power_5 : decode cX1_power 5 = .ok (.iload 4, 2) := by decide +kernel
theorem dX1_power_7 : decode cX1_power 7 = .ok (.iload_n 1, 1) := by decide +kernel
theorem dX1_power_8 : decode cX1_power 8 = .ok (.if_icmp .ge 14, 3) := by decide +kernel
theorem dX1_power_11 : decode cX1_power 11 = .ok (.lload_n 2, 1) := by decide +kernel
theorem dX1_power_12 : decode cX1_power 12 = .ok (.iload_n 0, 1) := by decide +kernel
theorem dX1_power_13 : decode cX1_power 13 = .ok (.i2l, 1) := by decide +kernel
theorem dX1_power_14 : decode cX1_power 14 = .ok (.lmul, 1) := by decide +kernel
theorem dX1_power_15 : decode cX1_power 15 = .ok (.lstore_n 2, 1) := by decide +kernel
theorem dX1_power_16 : decode cX1_power 16 = .ok (.iinc 4 1, 3) := by decide +kernel
theorem dX1_power_19 : decode cX1_power 19 = .ok (.goto (-14), 3) := by decide +kernel
theorem dX1_power_22 : decode cX1_power 22 = .ok (.lload_n 2, 1) := by decide +kernel
theorem dX1_power_23 : decode cX1_power 23 = .ok (.lreturn, 1) := by decide +kernel
theorem dX1_shareOf_0 : decode cX1_shareOf 0 = .ok (.lconst 0, 1) := by decide +kernel
theorem dX1_shareOf_1 : decode cX1_shareOf 1 = .ok (.lstore 4, 2) := by decide +kernel
theorem dX1_shareOf_3 : decode cX1_shareOf 3 = .ok (.iconst 0, 1) := by decide +kernel
theorem dX1_shareOf_4 : decode cX1_shareOf 4 = .ok (.istore 6, 2) := by decide +kernel
theorem dX1_shareOf_6 : decode cX1_shareOf 6 = .ok (.iload 6, 2) := by decide +kernel
theorem dX1_shareOf_8 : decode cX1_shareOf 8 = .ok (.iconst 1, 1) := by decide +kernel
theorem dX1_shareOf_9 : decode cX1_shareOf 9 = .ok (.aload_n 1, 1) := by decide +kernel
theorem dX1_shareOf_10 : decode cX1_shareOf 10 = .ok (.getfield 23, 3) := by decide +kernel
theorem dX1_shareOf_13 : decode cX1_shareOf 13 = .ok (.ishl, 1) := by decide +kernel
theorem dX1_shareOf_14 : decode cX1_shareOf 14 = .ok (.if_icmp .ge 73, 3) := by decide +kernel
theorem dX1_shareOf_17 : decode cX1_shareOf 17 = .ok (.iload 6, 2) := by decide +kernel
theorem dX1_shareOf_19 : decode cX1_shareOf 19 = .ok (.iload_n 2, 1) := by decide +kernel
theorem dX1_shareOf_20 : decode cX1_shareOf 20 = .ok (.ishr, 1) := by decide +kernel
theorem dX1_shareOf_21 : decode cX1_shareOf 21 = .ok (.iconst 1, 1) := by decide +kernel
theorem dX1_shareOf_22 : decode cX1_shareOf 22 = .ok (.iand, 1) := by decide +kernel
theorem dX1_shareOf_23 : decode cX1_shareOf 23 = .ok (.ifCond .ne 58, 3) := by decide +kernel
theorem dX1_shareOf_26 : decode cX1_shareOf 26 = .ok (.iload 6, 2) := by decide +kernel
theorem dX1_shareOf_28 : decode cX1_shareOf 28 = .ok (.invokestatic 52, 3) := by decide +kernel
theorem dX1_shareOf_31 : decode cX1_shareOf 31 = .ok (.istore 7, 2) := by decide +kernel
theorem dX1_shareOf_33 : decode cX1_shareOf 33 = .ok (.iload 7, 2) := by decide +kernel
theorem dX1_shareOf_35 : decode cX1_shareOf 35 = .ok (.invokestatic 57, 3) := by decide +kernel
theorem dX1_shareOf_38 : decode cX1_shareOf 38 = .ok (.aload_n 1, 1) := by decide +kernel
theorem dX1_shareOf_39 : decode cX1_shareOf 39 = .ok (.getfield 23, 3) := by decide +kernel
theorem dX1_shareOf_42 : decode cX1_shareOf 42 = .ok (.iconst 1, 1) := by decide +kernel
theorem dX1_shareOf_43 : decode cX1_shareOf 43 = .ok (.isub, 1) := by decide +kernel
theorem dX1_shareOf_44 : decode cX1_shareOf 44 = .ok (.iload 7, 2) := by decide +kernel
theorem dX1_shareOf_46 : decode cX1_shareOf 46 = .ok (.isub, 1) := by decide +kernel
theorem dX1_shareOf_47 : decode cX1_shareOf 47 = .ok (.invokestatic 57, 3) := by decide +kernel
theorem dX1_shareOf_50 : decode cX1_shareOf 50 = .ok (.lmul, 1) := by decide +kernel
theorem dX1_shareOf_51 : decode cX1_shareOf 51 = .ok (.lstore 8, 2) := by decide +kernel
theorem dX1_shareOf_53 : decode cX1_shareOf 53 = .ok (.lload 4, 2) := by decide +kernel
theorem dX1_shareOf_55 : decode cX1_shareOf 55 = .ok (.lload 8, 2) := by decide +kernel
theorem dX1_shareOf_57 : decode cX1_shareOf 57 = .ok (.aload_n 0, 1) := by decide +kernel
theorem dX1_shareOf_58 : decode cX1_shareOf 58 = .ok (.getfield 15, 3) := by decide +kernel
theorem dX1_shareOf_61 : decode cX1_shareOf 61 = .ok (.iload 6, 2) := by decide +kernel
theorem dX1_shareOf_63 : decode cX1_shareOf 63 = .ok (.iconst 1, 1) := by decide +kernel
theorem dX1_shareOf_64 : decode cX1_shareOf 64 = .ok (.iload_n 2, 1) := by decide +kernel
theorem dX1_shareOf_65 : decode cX1_shareOf 65 = .ok (.ishl, 1) := by decide +kernel
theorem dX1_shareOf_66 : decode cX1_shareOf 66 = .ok (.ior, 1) := by decide +kernel
theorem dX1_shareOf_67 : decode cX1_shareOf 67 = .ok (.iaload, 1) := by decide +kernel
theorem dX1_shareOf_68 : decode cX1_shareOf 68 = .ok (.aload_n 0, 1) := by decide +kernel
theorem dX1_shareOf_69 : decode cX1_shareOf 69 = .ok (.getfield 15, 3) := by decide +kernel
theorem dX1_shareOf_72 : decode cX1_shareOf 72 = .ok (.iload 6, 2) := by decide +kernel
theorem dX1_shareOf_74 : decode cX1_shareOf 74 = .ok (.iaload, 1) := by decide +kernel
theorem dX1_shareOf_75 : decode cX1_shareOf 75 = .ok (.isub, 1) := by decide +kernel
theorem dX1_shareOf_76 : decode cX1_shareOf 76 = .ok (.i2l, 1) := by decide +kernel
theorem dX1_shareOf_77 : decode cX1_shareOf 77 = .ok (.lmul, 1) := by decide +kernel
theorem dX1_shareOf_78 : decode cX1_shareOf 78 = .ok (.ladd, 1) := by decide +kernel
theorem dX1_shareOf_79 : decode cX1_shareOf 79 = .ok (.lstore 4, 2) := by decide +kernel
theorem dX1_shareOf_81 : decode cX1_shareOf 81 = .ok (.iinc 6 1, 3) := by decide +kernel
theorem dX1_shareOf_84 : decode cX1_shareOf 84 = .ok (.goto (-78), 3) := by decide +kernel
theorem dX1_shareOf_87 : decode cX1_shareOf 87 = .ok (.aload_n 3, 1) := by decide +kernel
theorem dX1_shareOf_88 : decode cX1_shareOf 88 = .ok (.lload 4, 2) := by decide +kernel
theorem dX1_shareOf_90 : decode cX1_shareOf 90 = .ok (.aload_n 1, 1) := by decide +kernel
theorem dX1_shareOf_91 : decode cX1_shareOf 91 = .ok (.getfield 23, 3) := by decide +kernel
theorem dX1_shareOf_94 : decode cX1_shareOf 94 = .ok (.invokestatic 57, 3) := by decide +kernel
theorem dX1_shareOf_97 : decode cX1_shareOf 97 = .ok (.invokevirtual 61, 3) := by decide +kernel
theorem dX1_shareOf_100 : decode cX1_shareOf 100 = .ok (.return_, 1) := by decide +kernel
theorem dX1_weight_0 : decode cX1_weight 0 = .ok (.iload_n 1, 1) := by decide +kernel
theorem dX1_weight_1 : decode cX1_weight 1 = .ok (.invokestatic 52, 3) := by decide +kernel
theorem dX1_weight_4 : decode cX1_weight 4 = .ok (.istore_n 2, 1) := by decide +kernel
theorem dX1_weight_5 : decode cX1_weight 5 = .ok (.bipush 10, 2) := by decide +kernel
theorem dX1_weight_7 : decode cX1_weight 7 = .ok (.aload_n 0, 1) := by decide +kernel
theorem dX1_weight_8 : decode cX1_weight 8 = .ok (.getfield 79, 3) := by decide +kernel
theorem dX1_weight_11 : decode cX1_weight 11 = .ok (.isub, 1) := by decide +kernel
theorem dX1_weight_12 : decode cX1_weight 12 = .ok (.iload_n 2, 1) := by decide +kernel
theorem dX1_weight_13 : decode cX1_weight 13 = .ok (.invokestatic 75, 3) := by decide +kernel
theorem dX1_weight_16 : decode cX1_weight 16 = .ok (.aload_n 0, 1) := by decide +kernel
theorem dX1_weight_17 : decode cX1_weight 17 = .ok (.getfield 79, 3) := by decide +kernel
theorem dX1_weight_20 : decode cX1_weight 20 = .ok (.aload_n 0, 1) := by decide +kernel
theorem dX1_weight_21 : decode cX1_weight 21 = .ok (.getfield 23, 3) := by decide +kernel
theorem dX1_weight_24 : decode cX1_weight 24 = .ok (.iload_n 2, 1) := by decide +kernel
theorem dX1_weight_25 : decode cX1_weight 25 = .ok (.isub, 1) := by decide +kernel
theorem dX1_weight_26 : decode cX1_weight 26 = .ok (.invokestatic 75, 3) := by decide +kernel
theorem dX1_weight_29 : decode cX1_weight 29 = .ok (.lmul, 1) := by decide +kernel
theorem dX1_weight_30 : decode cX1_weight 30 = .ok (.lreturn, 1) := by decide +kernel
theorem dX2_part_0 : decode cX2_part 0 = .ok (.iload_n 1, 1) := by decide +kernel
theorem dX2_part_1 : decode cX2_part 1 = .ok (.ifCond .ne 10, 3) := by decide +kernel
theorem dX2_part_4 : decode cX2_part 4 = .ok (.aload_n 0, 1) := by decide +kernel
theorem dX2_part_5 : decode cX2_part 5 = .ok (.getfield 19, 3) := by decide +kernel
theorem dX2_part_8 : decode cX2_part 8 = .ok (.goto 7, 3) := by decide +kernel
theorem dX2_part_11 : decode cX2_part 11 = .ok (.aload_n 0, 1) := by decide +kernel
theorem dX2_part_12 : decode cX2_part 12 = .ok (.getfield 7, 3) := by decide +kernel
theorem dX2_part_15 : decode cX2_part 15 = .ok (.lreturn, 1) := by decide +kernel
theorem dX2_reduce_0 : decode cX2_reduce 0 = .ok (.lload_n 1, 1) := by decide +kernel
theorem dX2_reduce_1 : decode cX2_reduce 1 = .ok (.invokestatic 13, 3) := by decide +kernel
theorem dX2_reduce_4 : decode cX2_reduce 4 = .ok (.lstore 5, 2) := by decide +kernel
theorem dX2_reduce_6 : decode cX2_reduce 6 = .ok (.lload_n 3, 1) := by decide +kernel
theorem dX2_reduce_7 : decode cX2_reduce 7 = .ok (.lstore 7, 2) := by decide +kernel
theorem dX2_reduce_9 : decode cX2_reduce 9 = .ok (.iconst 0, 1) := by decide +kernel
theorem dX2_reduce_10 : decode cX2_reduce 10 = .ok (.istore 9, 2) := by decide +kernel
theorem dX2_reduce_12 : decode cX2_reduce 12 = .ok (.iload 9, 2) := by decide +kernel
theorem dX2_reduce_14 : decode cX2_reduce 14 = .ok (.bipush 100, 2) := by decide +kernel
theorem dX2_reduce_16 : decode cX2_reduce 16 = .ok (.if_icmp .ge 31, 3) := by decide +kernel
theorem dX2_reduce_19 : decode cX2_reduce 19 = .ok (.lload 7, 2) := by decide +kernel
theorem dX2_reduce_21 : decode cX2_reduce 21 = .ok (.lconst 0, 1) := by decide +kernel
theorem dX2_reduce_22 : decode cX2_reduce 22 = .ok (.lcmp, 1) := by decide +kernel
theorem dX2_reduce_23 : decode cX2_reduce 23 = .ok (.ifCond .eq 24, 3) := by decide +kernel
theorem dX2_reduce_26 : decode cX2_reduce 26 = .ok (.lload 5, 2) := by decide +kernel
theorem dX2_reduce_28 : decode cX2_reduce 28 = .ok (.lload 7, 2) := by decide +kernel
theorem dX2_reduce_30 : decode cX2_reduce 30 = .ok (.lrem, 1) := by decide +kernel
theorem dX2_reduce_31 : decode cX2_reduce 31 = .ok (.lstore 10, 2) := by decide +kernel
theorem dX2_reduce_33 : decode cX2_reduce 33 = .ok (.lload 7, 2) := by decide +kernel
theorem dX2_reduce_35 : decode cX2_reduce 35 = .ok (.lstore 5, 2) := by decide +kernel
theorem dX2_reduce_37 : decode cX2_reduce 37 = .ok (.lload 10, 2) := by decide +kernel
theorem dX2_reduce_39 : decode cX2_reduce 39 = .ok (.lstore 7, 2) := by decide +kernel
theorem dX2_reduce_41 : decode cX2_reduce 41 = .ok (.iinc 9 1, 3) := by decide +kernel
theorem dX2_reduce_44 : decode cX2_reduce 44 = .ok (.goto (-32), 3) := by decide +kernel
theorem dX2_reduce_47 : decode cX2_reduce 47 = .ok (.aload_n 0, 1) := by decide +kernel
theorem dX2_reduce_48 : decode cX2_reduce 48 = .ok (.lload 5, 2) := by decide +kernel
theorem dX2_reduce_50 : decode cX2_reduce 50 = .ok (.lconst 0, 1) := by decide +kernel
theorem dX2_reduce_51 : decode cX2_reduce 51 = .ok (.lcmp, 1) := by decide +kernel
theorem dX2_reduce_52 : decode cX2_reduce 52 = .ok (.ifCond .ne 7, 3) := by decide +kernel
theorem dX2_reduce_55 : decode cX2_reduce 55 = .ok (.lconst 0, 1) := by decide +kernel
theorem dX2_reduce_56 : decode cX2_reduce 56 = .ok (.goto 7, 3) := by decide +kernel
theorem dX2_reduce_59 : decode cX2_reduce 59 = .ok (.lload_n 1, 1) := by decide +kernel
theorem dX2_reduce_60 : decode cX2_reduce 60 = .ok (.lload 5, 2) := by decide +kernel
theorem dX2_reduce_62 : decode cX2_reduce 62 = .ok (.ldiv, 1) := by decide +kernel
theorem dX2_reduce_63 : decode cX2_reduce 63 = .ok (.putfield 19, 3) := by decide +kernel
theorem dX2_reduce_66 : decode cX2_reduce 66 = .ok (.aload_n 0, 1) := by decide +kernel
theorem dX2_reduce_67 : decode cX2_reduce 67 = .ok (.lload 5, 2) := by decide +kernel
theorem dX2_reduce_69 : decode cX2_reduce 69 = .ok (.lconst 0, 1) := by decide +kernel
theorem dX2_reduce_70 : decode cX2_reduce 70 = .ok (.lcmp, 1) := by decide +kernel
theorem dX2_reduce_71 : decode cX2_reduce 71 = .ok (.ifCond .ne 7, 3) := by decide +kernel
theorem dX2_reduce_74 : decode cX2_reduce 74 = .ok (.lconst 1, 1) := by decide +kernel
theorem dX2_reduce_75 : decode cX2_reduce 75 = .ok (.goto 7, 3) := by decide +kernel
theorem dX2_reduce_78 : decode cX2_reduce 78 = .ok (.lload_n 3, 1) := by decide +kernel
theorem dX2_reduce_79 : decode cX2_reduce 79 = .ok (.lload 5, 2) := by decide +kernel
theorem dX2_reduce_81 : decode cX2_reduce 81 = .ok (.ldiv, 1) := by decide +kernel
theorem dX2_reduce_82 : decode cX2_reduce 82 = .ok (.putfield 7, 3) := by decide +kernel
theorem dX2_reduce_85 : decode cX2_reduce 85 = .ok (.return_, 1) := by decide +kernel
theorem dX3_cellsJoinedBy_0 : decode cX3_cellsJoinedBy 0 = .ok (.iconst 0, 1) := by decide +kernel
theorem dX3_cellsJoinedBy_1 : decode cX3_cellsJoinedBy 1 = .ok (.istore_n 2, 1) := by decide +kernel
theorem dX3_cellsJoinedBy_2 : decode cX3_cellsJoinedBy 2 = .ok (.iconst 0, 1) := by decide +kernel
theorem dX3_cellsJoinedBy_3 : decode cX3_cellsJoinedBy 3 = .ok (.istore_n 3, 1) := by decide +kernel
theorem dX3_cellsJoinedBy_4 : decode cX3_cellsJoinedBy 4 = .ok (.iload_n 3, 1) := by decide +kernel
theorem dX3_cellsJoinedBy_5 : decode cX3_cellsJoinedBy 5 = .ok (.bipush 64, 2) := by decide +kernel
theorem dX3_cellsJoinedBy_7 : decode cX3_cellsJoinedBy 7 = .ok (.if_icmp .ge 43, 3) := by decide +kernel
theorem dX3_cellsJoinedBy_10 : decode cX3_cellsJoinedBy 10 = .ok (.iload_n 2, 1) := by decide +kernel
theorem dX3_cellsJoinedBy_11 : decode cX3_cellsJoinedBy 11 = .ok (.aload_n 0, 1) := by decide +kernel
theorem dX3_cellsJoinedBy_12 : decode cX3_cellsJoinedBy 12 = .ok (.getfield 15, 3) := by decide +kernel
theorem dX3_cellsJoinedBy_15 : decode cX3_cellsJoinedBy 15 = .ok (.iload_n 3, 1) := by decide +kernel
theorem dX3_cellsJoinedBy_16 : decode cX3_cellsJoinedBy 16 = .ok (.invokestatic 50, 3) := by decide +kernel
theorem dX3_cellsJoinedBy_19 : decode cX3_cellsJoinedBy 19 = .ok (.ifCond .eq 19, 3) := by decide +kernel
theorem dX3_cellsJoinedBy_22 : decode cX3_cellsJoinedBy 22 = .ok (.aload_n 0, 1) := by decide +kernel
theorem dX3_cellsJoinedBy_23 : decode cX3_cellsJoinedBy 23 = .ok (.iload_n 3, 1) := by decide +kernel
theorem dX3_cellsJoinedBy_24 : decode cX3_cellsJoinedBy 24 = .ok (.invokevirtual 62, 3) := by decide +kernel
theorem dX3_cellsJoinedBy_27 : decode cX3_cellsJoinedBy 27 = .ok (.invokestatic 66, 3) := by decide +kernel
theorem dX3_cellsJoinedBy_30 : decode cX3_cellsJoinedBy 30 = .ok (.iload_n 1, 1) := by decide +kernel
theorem dX3_cellsJoinedBy_31 : decode cX3_cellsJoinedBy 31 = .ok (.if_icmp .ne 7, 3) := by decide +kernel
theorem dX3_cellsJoinedBy_34 : decode cX3_cellsJoinedBy 34 = .ok (.iconst 1, 1) := by decide +kernel
theorem dX3_cellsJoinedBy_35 : decode cX3_cellsJoinedBy 35 = .ok (.goto 4, 3) := by decide +kernel
theorem dX3_cellsJoinedBy_38 : decode cX3_cellsJoinedBy 38 = .ok (.iconst 0, 1) := by decide +kernel
theorem dX3_cellsJoinedBy_39 : decode cX3_cellsJoinedBy 39 = .ok (.invokestatic 54, 3) := by decide +kernel
theorem dX3_cellsJoinedBy_42 : decode cX3_cellsJoinedBy 42 = .ok (.iadd, 1) := by decide +kernel
theorem dX3_cellsJoinedBy_43 : decode cX3_cellsJoinedBy 43 = .ok (.istore_n 2, 1) := by decide +kernel
theorem dX3_cellsJoinedBy_44 : decode cX3_cellsJoinedBy 44 = .ok (.iinc 3 1, 3) := by decide +kernel
theorem dX3_cellsJoinedBy_47 : decode cX3_cellsJoinedBy 47 = .ok (.goto (-43), 3) := by decide +kernel
theorem dX3_cellsJoinedBy_50 : decode cX3_cellsJoinedBy 50 = .ok (.iload_n 2, 1) := by decide +kernel
theorem dX3_cellsJoinedBy_51 : decode cX3_cellsJoinedBy 51 = .ok (.ireturn, 1) := by decide +kernel
theorem dX3_cuts_0 : decode cX3_cuts 0 = .ok (.iconst 0, 1) := by decide +kernel
theorem dX3_cuts_1 : decode cX3_cuts 1 = .ok (.istore_n 1, 1) := by decide +kernel
theorem dX3_cuts_2 : decode cX3_cuts 2 = .ok (.iconst 0, 1) := by decide +kernel
theorem dX3_cuts_3 : decode cX3_cuts 3 = .ok (.istore_n 2, 1) := by decide +kernel
theorem dX3_cuts_4 : decode cX3_cuts 4 = .ok (.iload_n 2, 1) := by decide +kernel
theorem dX3_cuts_5 : decode cX3_cuts 5 = .ok (.bipush 64, 2) := by decide +kernel
theorem dX3_cuts_7 : decode cX3_cuts 7 = .ok (.if_icmp .ge 135, 3) := by decide +kernel
theorem dX3_cuts_10 : decode cX3_cuts 10 = .ok (.iload_n 2, 1) := by decide +kernel
theorem dX3_cuts_11 : decode cX3_cuts 11 = .ok (.invokestatic 33, 3) := by decide +kernel
theorem dX3_cuts_14 : decode cX3_cuts 14 = .ok (.lstore_n 3, 1) := by decide +kernel
theorem dX3_cuts_15 : decode cX3_cuts 15 = .ok (.aload_n 0, 1) := by decide +kernel
theorem dX3_cuts_16 : decode cX3_cuts 16 = .ok (.getfield 24, 3) := by decide +kernel
theorem dX3_cuts_19 : decode cX3_cuts 19 = .ok (.lload_n 3, 1) := by decide +kernel
theorem dX3_cuts_20 : decode cX3_cuts 20 = .ok (.land, 1) := by decide +kernel
theorem dX3_cuts_21 : decode cX3_cuts 21 = .ok (.lconst 0, 1) := by decide +kernel
theorem dX3_cuts_22 : decode cX3_cuts 22 = .ok (.lcmp, 1) := by decide +kernel
theorem dX3_cuts_23 : decode cX3_cuts 23 = .ok (.ifCond .eq 53, 3) := by decide +kernel
theorem dX3_cuts_26 : decode cX3_cuts 26 = .ok (.aload_n 0, 1) := by decide +kernel
theorem dX3_cuts_27 : decode cX3_cuts 27 = .ok (.dup, 1) := by decide +kernel
theorem dX3_cuts_28 : decode cX3_cuts 28 = .ok (.getfield 24, 3) := by decide +kernel
theorem dX3_cuts_31 : decode cX3_cuts 31 = .ok (.lload_n 3, 1) := by decide +kernel
theorem dX3_cuts_32 : decode cX3_cuts 32 = .ok (.ldc2_w 48, 3) := by decide +kernel
theorem dX3_cuts_35 : decode cX3_cuts 35 = .ok (.lxor, 1) := by decide +kernel
theorem dX3_cuts_36 : decode cX3_cuts 36 = .ok (.land, 1) := by decide +kernel
theorem dX3_cuts_37 : decode cX3_cuts 37 = .ok (.putfield 24, 3) := by decide +kernel
theorem dX3_cuts_40 : decode cX3_cuts 40 = .ok (.iload_n 1, 1) := by decide +kernel
theorem dX3_cuts_41 : decode cX3_cuts 41 = .ok (.aload_n 0, 1) := by decide +kernel
theorem dX3_cuts_42 : decode cX3_cuts 42 = .ok (.iload_n 2, 1) := by decide +kernel
theorem dX3_cuts_43 : decode cX3_cuts 43 = .ok (.invokevirtual 45, 3) := by decide +kernel
theorem dX3_cuts_46 : decode cX3_cuts 46 = .ok (.iload_n 2, 1) := by decide +kernel
theorem dX3_cuts_47 : decode cX3_cuts 47 = .ok (.bipush 8, 2) := by decide +kernel
theorem dX3_cuts_49 : decode cX3_cuts 49 = .ok (.iadd, 1) := by decide +kernel
theorem dX3_cuts_50 : decode cX3_cuts 50 = .ok (.invokestatic 50, 3) := by decide +kernel
theorem dX3_cuts_53 : decode cX3_cuts 53 = .ok (.ifCond .ne 7, 3) := by decide +kernel
theorem dX3_cuts_56 : decode cX3_cuts 56 = .ok (.iconst 1, 1) := by decide +kernel
theorem dX3_cuts_57 : decode cX3_cuts 57 = .ok (.goto 4, 3) := by decide +kernel
theorem dX3_cuts_60 : decode cX3_cuts 60 = .ok (.iconst 0, 1) := by decide +kernel
theorem dX3_cuts_61 : decode cX3_cuts 61 = .ok (.invokestatic 54, 3) := by decide +kernel
theorem dX3_cuts_64 : decode cX3_cuts 64 = .ok (.iadd, 1) := by decide +kernel
theorem dX3_cuts_65 : decode cX3_cuts 65 = .ok (.istore_n 1, 1) := by decide +kernel
theorem dX3_cuts_66 : decode cX3_cuts 66 = .ok (.aload_n 0, 1) := by decide +kernel
theorem dX3_cuts_67 : decode cX3_cuts 67 = .ok (.dup, 1) := by decide +kernel
theorem dX3_cuts_68 : decode cX3_cuts 68 = .ok (.getfield 24, 3) := by decide +kernel
theorem dX3_cuts_71 : decode cX3_cuts 71 = .ok (.lload_n 3, 1) := by decide +kernel
theorem dX3_cuts_72 : decode cX3_cuts 72 = .ok (.lor, 1) := by decide +kernel
theorem dX3_cuts_73 : decode cX3_cuts 73 = .ok (.putfield 24, 3) := by decide +kernel
theorem dX3_cuts_76 : decode cX3_cuts 76 = .ok (.aload_n 0, 1) := by decide +kernel
theorem dX3_cuts_77 : decode cX3_cuts 77 = .ok (.getfield 29, 3) := by decide +kernel
theorem dX3_cuts_80 : decode cX3_cuts 80 = .ok (.lload_n 3, 1) := by decide +kernel
theorem dX3_cuts_81 : decode cX3_cuts 81 = .ok (.land, 1) := by decide +kernel
theorem dX3_cuts_82 : decode cX3_cuts 82 = .ok (.lconst 0, 1) := by decide +kernel
theorem dX3_cuts_83 : decode cX3_cuts 83 = .ok (.lcmp, 1) := by decide +kernel
theorem dX3_cuts_84 : decode cX3_cuts 84 = .ok (.ifCond .eq 52, 3) := by decide +kernel
theorem dX3_cuts_87 : decode cX3_cuts 87 = .ok (.aload_n 0, 1) := by decide +kernel
theorem dX3_cuts_88 : decode cX3_cuts 88 = .ok (.dup, 1) := by decide +kernel
theorem dX3_cuts_89 : decode cX3_cuts 89 = .ok (.getfield 29, 3) := by decide +kernel
theorem dX3_cuts_92 : decode cX3_cuts 92 = .ok (.lload_n 3, 1) := by decide +kernel
theorem dX3_cuts_93 : decode cX3_cuts 93 = .ok (.ldc2_w 48, 3) := by decide +kernel
theorem dX3_cuts_96 : decode cX3_cuts 96 = .ok (.lxor, 1) := by decide +kernel
theorem dX3_cuts_97 : decode cX3_cuts 97 = .ok (.land, 1) := by decide +kernel
theorem dX3_cuts_98 : decode cX3_cuts 98 = .ok (.putfield 29, 3) := by decide +kernel
theorem dX3_cuts_101 : decode cX3_cuts 101 = .ok (.iload_n 1, 1) := by decide +kernel
theorem dX3_cuts_102 : decode cX3_cuts 102 = .ok (.aload_n 0, 1) := by decide +kernel
theorem dX3_cuts_103 : decode cX3_cuts 103 = .ok (.iload_n 2, 1) := by decide +kernel
theorem dX3_cuts_104 : decode cX3_cuts 104 = .ok (.invokevirtual 45, 3) := by decide +kernel
theorem dX3_cuts_107 : decode cX3_cuts 107 = .ok (.iload_n 2, 1) := by decide +kernel
theorem dX3_cuts_108 : decode cX3_cuts 108 = .ok (.iconst 1, 1) := by decide +kernel
theorem dX3_cuts_109 : decode cX3_cuts 109 = .ok (.iadd, 1) := by decide +kernel
theorem dX3_cuts_110 : decode cX3_cuts 110 = .ok (.invokestatic 50, 3) := by decide +kernel
theorem dX3_cuts_113 : decode cX3_cuts 113 = .ok (.ifCond .ne 7, 3) := by decide +kernel
theorem dX3_cuts_116 : decode cX3_cuts 116 = .ok (.iconst 1, 1) := by decide +kernel
theorem dX3_cuts_117 : decode cX3_cuts 117 = .ok (.goto 4, 3) := by decide +kernel
theorem dX3_cuts_120 : decode cX3_cuts 120 = .ok (.iconst 0, 1) := by decide +kernel
theorem dX3_cuts_121 : decode cX3_cuts 121 = .ok (.invokestatic 54, 3) := by decide +kernel
theorem dX3_cuts_124 : decode cX3_cuts 124 = .ok (.iadd, 1) := by decide +kernel
theorem dX3_cuts_125 : decode cX3_cuts 125 = .ok (.istore_n 1, 1) := by decide +kernel
theorem dX3_cuts_126 : decode cX3_cuts 126 = .ok (.aload_n 0, 1) := by decide +kernel
theorem dX3_cuts_127 : decode cX3_cuts 127 = .ok (.dup, 1) := by decide +kernel
theorem dX3_cuts_128 : decode cX3_cuts 128 = .ok (.getfield 29, 3) := by decide +kernel
theorem dX3_cuts_131 : decode cX3_cuts 131 = .ok (.lload_n 3, 1) := by decide +kernel
theorem dX3_cuts_132 : decode cX3_cuts 132 = .ok (.lor, 1) := by decide +kernel
theorem dX3_cuts_133 : decode cX3_cuts 133 = .ok (.putfield 29, 3) := by decide +kernel
theorem dX3_cuts_136 : decode cX3_cuts 136 = .ok (.iinc 2 1, 3) := by decide +kernel
theorem dX3_cuts_139 : decode cX3_cuts 139 = .ok (.goto (-135), 3) := by decide +kernel
theorem dX3_cuts_142 : decode cX3_cuts 142 = .ok (.iload_n 1, 1) := by decide +kernel
theorem dX3_cuts_143 : decode cX3_cuts 143 = .ok (.ireturn, 1) := by decide +kernel
theorem dX3_distance_0 : decode cX3_distance 0 = .ok (.aload_n 0, 1) := by decide +kernel
theorem dX3_distance_1 : decode cX3_distance 1 = .ok (.getfield 15, 3) := by decide +kernel
theorem dX3_distance_4 : decode cX3_distance 4 = .ok (.iload_n 1, 1) := by decide +kernel
theorem dX3_distance_5 : decode cX3_distance 5 = .ok (.invokestatic 33, 3) := by decide +kernel
theorem dX3_distance_8 : decode cX3_distance 8 = .ok (.land, 1) := by decide +kernel
theorem dX3_distance_9 : decode cX3_distance 9 = .ok (.lstore_n 3, 1) := by decide +kernel
theorem dX3_distance_10 : decode cX3_distance 10 = .ok (.iconst 0, 1) := by decide +kernel
theorem dX3_distance_11 : decode cX3_distance 11 = .ok (.istore 5, 2) := by decide +kernel
theorem dX3_distance_13 : decode cX3_distance 13 = .ok (.iload 5, 2) := by decide +kernel
theorem dX3_distance_15 : decode cX3_distance 15 = .ok (.bipush 64, 2) := by decide +kernel
theorem dX3_distance_17 : decode cX3_distance 17 = .ok (.if_icmp .ge 26, 3) := by decide +kernel
theorem dX3_distance_20 : decode cX3_distance 20 = .ok (.lload_n 3, 1) := by decide +kernel
theorem dX3_distance_21 : decode cX3_distance 21 = .ok (.iload_n 2, 1) := by decide +kernel
theorem dX3_distance_22 : decode cX3_distance 22 = .ok (.invokestatic 50, 3) := by decide +kernel
theorem dX3_distance_25 : decode cX3_distance 25 = .ok (.ifCond .eq 6, 3) := by decide +kernel
theorem dX3_distance_28 : decode cX3_distance 28 = .ok (.iload 5, 2) := by decide +kernel
theorem dX3_distance_30 : decode cX3_distance 30 = .ok (.ireturn, 1) := by decide +kernel
theorem dX3_distance_31 : decode cX3_distance 31 = .ok (.aload_n 0, 1) := by decide +kernel
theorem dX3_distance_32 : decode cX3_distance 32 = .ok (.lload_n 3, 1) := by decide +kernel
theorem dX3_distance_33 : decode cX3_distance 33 = .ok (.invokevirtual 37, 3) := by decide +kernel
theorem dX3_distance_36 : decode cX3_distance 36 = .ok (.lstore_n 3, 1) := by decide +kernel
theorem dX3_distance_37 : decode cX3_distance 37 = .ok (.iinc 5 1, 3) := by decide +kernel
theorem dX3_distance_40 : decode cX3_distance 40 = .ok (.goto (-27), 3) := by decide +kernel
theorem dX3_distance_43 : decode cX3_distance 43 = .ok (.iconst (-1), 1) := by decide +kernel
theorem dX3_distance_44 : decode cX3_distance 44 = .ok (.ireturn, 1) := by decide +kernel
theorem dX3_lay_0 : decode cX3_lay 0 = .ok (.aload_n 0, 1) := by decide +kernel
theorem dX3_lay_1 : decode cX3_lay 1 = .ok (.aload_n 1, 1) := by decide +kernel
theorem dX3_lay_2 : decode cX3_lay 2 = .ok (.getfield 9, 3) := by decide +kernel
theorem dX3_lay_5 : decode cX3_lay 5 = .ok (.iload_n 2, 1) := by decide +kernel
theorem dX3_lay_6 : decode cX3_lay 6 = .ok (.laload, 1) := by decide +kernel
theorem dX3_lay_7 : decode cX3_lay 7 = .ok (.putfield 15, 3) := by decide +kernel
theorem dX3_lay_10 : decode cX3_lay 10 = .ok (.aload_n 0, 1) := by decide +kernel
theorem dX3_lay_11 : decode cX3_lay 11 = .ok (.aload_n 1, 1) := by decide +kernel
theorem dX3_lay_12 : decode cX3_lay 12 = .ok (.getfield 21, 3) := by decide +kernel
theorem dX3_lay_15 : decode cX3_lay 15 = .ok (.iload_n 2, 1) := by decide +kernel
theorem dX3_lay_16 : decode cX3_lay 16 = .ok (.laload, 1) := by decide +kernel
theorem dX3_lay_17 : decode cX3_lay 17 = .ok (.putfield 24, 3) := by decide +kernel
theorem dX3_lay_20 : decode cX3_lay 20 = .ok (.aload_n 0, 1) := by decide +kernel
theorem dX3_lay_21 : decode cX3_lay 21 = .ok (.aload_n 1, 1) := by decide +kernel
theorem dX3_lay_22 : decode cX3_lay 22 = .ok (.getfield 26, 3) := by decide +kernel
theorem dX3_lay_25 : decode cX3_lay 25 = .ok (.iload_n 2, 1) := by decide +kernel
theorem dX3_lay_26 : decode cX3_lay 26 = .ok (.laload, 1) := by decide +kernel
theorem dX3_lay_27 : decode cX3_lay 27 = .ok (.putfield 29, 3) := by decide +kernel
theorem dX3_lay_30 : decode cX3_lay 30 = .ok (.return_, 1) := by decide +kernel
theorem dX3_layAll_0 : decode cX3_layAll 0 = .ok (.aload_n 0, 1) := by decide +kernel
theorem dX3_layAll_1 : decode cX3_layAll 1 = .ok (.lload_n 1, 1) := by decide +kernel
theorem dX3_layAll_2 : decode cX3_layAll 2 = .ok (.putfield 15, 3) := by decide +kernel
theorem dX3_layAll_5 : decode cX3_layAll 5 = .ok (.aload_n 0, 1) := by decide +kernel
theorem dX3_layAll_6 : decode cX3_layAll 6 = .ok (.lload_n 1, 1) := by decide +kernel
theorem dX3_layAll_7 : decode cX3_layAll 7 = .ok (.lload_n 1, 1) := by decide +kernel
theorem dX3_layAll_8 : decode cX3_layAll 8 = .ok (.bipush 8, 2) := by decide +kernel
theorem dX3_layAll_10 : decode cX3_layAll 10 = .ok (.lushr, 1) := by decide +kernel
theorem dX3_layAll_11 : decode cX3_layAll 11 = .ok (.land, 1) := by decide +kernel
theorem dX3_layAll_12 : decode cX3_layAll 12 = .ok (.putfield 24, 3) := by decide +kernel
theorem dX3_layAll_15 : decode cX3_layAll 15 = .ok (.aload_n 0, 1) := by decide +kernel
theorem dX3_layAll_16 : decode cX3_layAll 16 = .ok (.lload_n 1, 1) := by decide +kernel
theorem dX3_layAll_17 : decode cX3_layAll 17 = .ok (.lload_n 1, 1) := by decide +kernel
theorem dX3_layAll_18 : decode cX3_layAll 18 = .ok (.iconst 1, 1) := by decide +kernel
theorem dX3_layAll_19 : decode cX3_layAll 19 = .ok (.lushr, 1) := by decide +kernel
theorem dX3_layAll_20 : decode cX3_layAll 20 = .ok (.land, 1) := by decide +kernel
theorem dX3_layAll_21 : decode cX3_layAll 21 = .ok (.ldc2_w 31, 3) := by decide +kernel
theorem dX3_layAll_24 : decode cX3_layAll 24 = .ok (.land, 1) := by decide +kernel
theorem dX3_layAll_25 : decode cX3_layAll 25 = .ok (.putfield 29, 3) := by decide +kernel
theorem dX3_layAll_28 : decode cX3_layAll 28 = .ok (.return_, 1) := by decide +kernel
theorem dX3_longestRow_0 : decode cX3_longestRow 0 = .ok (.iconst 0, 1) := by decide +kernel
theorem dX3_longestRow_1 : decode cX3_longestRow 1 = .ok (.istore_n 1, 1) := by decide +kernel
theorem dX3_longestRow_2 : decode cX3_longestRow 2 = .ok (.aload_n 0, 1) := by decide +kernel
theorem dX3_longestRow_3 : decode cX3_longestRow 3 = .ok (.getfield 24, 3) := by decide +kernel
theorem dX3_longestRow_6 : decode cX3_longestRow 6 = .ok (.lstore_n 2, 1) := by decide +kernel
theorem dX3_longestRow_7 : decode cX3_longestRow 7 = .ok (.aload_n 0, 1) := by decide +kernel
theorem dX3_longestRow_8 : decode cX3_longestRow 8 = .ok (.getfield 29, 3) := by decide +kernel
theorem dX3_longestRow_11 : decode cX3_longestRow 11 = .ok (.lstore 4, 2) := by decide +kernel
theorem dX3_longestRow_13 : decode cX3_longestRow 13 = .ok (.iconst 0, 1) := by decide +kernel
theorem dX3_longestRow_14 : decode cX3_longestRow 14 = .ok (.istore 6, 2) := by decide +kernel
theorem dX3_longestRow_16 : decode cX3_longestRow 16 = .ok (.iload 6, 2) := by decide +kernel
theorem dX3_longestRow_18 : decode cX3_longestRow 18 = .ok (.bipush 8, 2) := by decide +kernel
theorem dX3_longestRow_20 : decode cX3_longestRow 20 = .ok (.if_icmp .ge 37, 3) := by decide +kernel
theorem dX3_longestRow_23 : decode cX3_longestRow 23 = .ok (.lload_n 2, 1) := by decide +kernel
theorem dX3_longestRow_24 : decode cX3_longestRow 24 = .ok (.lload 4, 2) := by decide +kernel
theorem dX3_longestRow_26 : decode cX3_longestRow 26 = .ok (.lor, 1) := by decide +kernel
theorem dX3_longestRow_27 : decode cX3_longestRow 27 = .ok (.lconst 0, 1) := by decide +kernel
theorem dX3_longestRow_28 : decode cX3_longestRow 28 = .ok (.lcmp, 1) := by decide +kernel
theorem dX3_longestRow_29 : decode cX3_longestRow 29 = .ok (.ifCond .eq 28, 3) := by decide +kernel
theorem dX3_longestRow_32 : decode cX3_longestRow 32 = .ok (.iinc 1 1, 3) := by decide +kernel
theorem dX3_longestRow_35 : decode cX3_longestRow 35 = .ok (.lload_n 2, 1) := by decide +kernel
theorem dX3_longestRow_36 : decode cX3_longestRow 36 = .ok (.lload_n 2, 1) := by decide +kernel
theorem dX3_longestRow_37 : decode cX3_longestRow 37 = .ok (.bipush 8, 2) := by decide +kernel
theorem dX3_longestRow_39 : decode cX3_longestRow 39 = .ok (.lushr, 1) := by decide +kernel
theorem dX3_longestRow_40 : decode cX3_longestRow 40 = .ok (.land, 1) := by decide +kernel
theorem dX3_longestRow_41 : decode cX3_longestRow 41 = .ok (.lstore_n 2, 1) := by decide +kernel
theorem dX3_longestRow_42 : decode cX3_longestRow 42 = .ok (.lload 4, 2) := by decide +kernel
theorem dX3_longestRow_44 : decode cX3_longestRow 44 = .ok (.lload 4, 2) := by decide +kernel
theorem dX3_longestRow_46 : decode cX3_longestRow 46 = .ok (.iconst 1, 1) := by decide +kernel
theorem dX3_longestRow_47 : decode cX3_longestRow 47 = .ok (.lushr, 1) := by decide +kernel
theorem dX3_longestRow_48 : decode cX3_longestRow 48 = .ok (.land, 1) := by decide +kernel
theorem dX3_longestRow_49 : decode cX3_longestRow 49 = .ok (.lstore 4, 2) := by decide +kernel
theorem dX3_longestRow_51 : decode cX3_longestRow 51 = .ok (.iinc 6 1, 3) := by decide +kernel
theorem dX3_longestRow_54 : decode cX3_longestRow 54 = .ok (.goto (-38), 3) := by decide +kernel
theorem dX3_longestRow_57 : decode cX3_longestRow 57 = .ok (.iload_n 1, 1) := by decide +kernel
theorem dX3_longestRow_58 : decode cX3_longestRow 58 = .ok (.ireturn, 1) := by decide +kernel
theorem dX3_outermost_0 : decode cX3_outermost 0 = .ok (.aload_n 0, 1) := by decide +kernel
theorem dX3_outermost_1 : decode cX3_outermost 1 = .ok (.getfield 15, 3) := by decide +kernel
theorem dX3_outermost_4 : decode cX3_outermost 4 = .ok (.iload_n 1, 1) := by decide +kernel
theorem dX3_outermost_5 : decode cX3_outermost 5 = .ok (.invokestatic 33, 3) := by decide +kernel
theorem dX3_outermost_8 : decode cX3_outermost 8 = .ok (.land, 1) := by decide +kernel
theorem dX3_outermost_9 : decode cX3_outermost 9 = .ok (.lstore_n 2, 1) := by decide +kernel
theorem dX3_outermost_10 : decode cX3_outermost 10 = .ok (.lload_n 2, 1) := by decide +kernel
theorem dX3_outermost_11 : decode cX3_outermost 11 = .ok (.lstore 4, 2) := by decide +kernel
theorem dX3_outermost_13 : decode cX3_outermost 13 = .ok (.aload_n 0, 1) := by decide +kernel
theorem dX3_outermost_14 : decode cX3_outermost 14 = .ok (.lload_n 2, 1) := by decide +kernel
theorem dX3_outermost_15 : decode cX3_outermost 15 = .ok (.invokevirtual 37, 3) := by decide +kernel
theorem dX3_outermost_18 : decode cX3_outermost 18 = .ok (.lstore 6, 2) := by decide +kernel
theorem dX3_outermost_20 : decode cX3_outermost 20 = .ok (.iconst 0, 1) := by decide +kernel
theorem dX3_outermost_21 : decode cX3_outermost 21 = .ok (.istore 8, 2) := by decide +kernel
theorem dX3_outermost_23 : decode cX3_outermost 23 = .ok (.iload 8, 2) := by decide +kernel
theorem dX3_outermost_25 : decode cX3_outermost 25 = .ok (.bipush 64, 2) := by decide +kernel
theorem dX3_outermost_27 : decode cX3_outermost 27 = .ok (.if_icmp .ge 36, 3) := by decide +kernel
theorem dX3_outermost_30 : decode cX3_outermost 30 = .ok (.lload 6, 2) := by decide +kernel
theorem dX3_outermost_32 : decode cX3_outermost 32 = .ok (.lload_n 2, 1) := by decide +kernel
theorem dX3_outermost_33 : decode cX3_outermost 33 = .ok (.lcmp, 1) := by decide +kernel
theorem dX3_outermost_34 : decode cX3_outermost 34 = .ok (.ifCond .eq 29, 3) := by decide +kernel
theorem dX3_outermost_37 : decode cX3_outermost 37 = .ok (.lload 6, 2) := by decide +kernel
theorem dX3_outermost_39 : decode cX3_outermost 39 = .ok (.lload_n 2, 1) := by decide +kernel
theorem dX3_outermost_40 : decode cX3_outermost 40 = .ok (.ldc2_w 48, 3) := by decide +kernel
theorem dX3_outermost_43 : decode cX3_outermost 43 = .ok (.lxor, 1) := by decide +kernel
theorem dX3_outermost_44 : decode cX3_outermost 44 = .ok (.land, 1) := by decide +kernel
theorem dX3_outermost_45 : decode cX3_outermost 45 = .ok (.lstore 4, 2) := by decide +kernel
theorem dX3_outermost_47 : decode cX3_outermost 47 = .ok (.lload 6, 2) := by decide +kernel
theorem dX3_outermost_49 : decode cX3_outermost 49 = .ok (.lstore_n 2, 1) := by decide +kernel
theorem dX3_outermost_50 : decode cX3_outermost 50 = .ok (.aload_n 0, 1) := by decide +kernel
theorem dX3_outermost_51 : decode cX3_outermost 51 = .ok (.lload_n 2, 1) := by decide +kernel
theorem dX3_outermost_52 : decode cX3_outermost 52 = .ok (.invokevirtual 37, 3) := by decide +kernel
theorem dX3_outermost_55 : decode cX3_outermost 55 = .ok (.lstore 6, 2) := by decide +kernel
theorem dX3_outermost_57 : decode cX3_outermost 57 = .ok (.iinc 8 1, 3) := by decide +kernel
theorem dX3_outermost_60 : decode cX3_outermost 60 = .ok (.goto (-37), 3) := by decide +kernel
theorem dX3_outermost_63 : decode cX3_outermost 63 = .ok (.lload 4, 2) := by decide +kernel
theorem dX3_outermost_65 : decode cX3_outermost 65 = .ok (.lconst 0, 1) := by decide +kernel
theorem dX3_outermost_66 : decode cX3_outermost 66 = .ok (.lcmp, 1) := by decide +kernel
theorem dX3_outermost_67 : decode cX3_outermost 67 = .ok (.ifCond .ne 7, 3) := by decide +kernel
theorem dX3_outermost_70 : decode cX3_outermost 70 = .ok (.iconst (-1), 1) := by decide +kernel
theorem dX3_outermost_71 : decode cX3_outermost 71 = .ok (.goto 8, 3) := by decide +kernel
theorem dX3_outermost_74 : decode cX3_outermost 74 = .ok (.lload 4, 2) := by decide +kernel
theorem dX3_outermost_76 : decode cX3_outermost 76 = .ok (.invokestatic 41, 3) := by decide +kernel
theorem dX3_outermost_79 : decode cX3_outermost 79 = .ok (.ireturn, 1) := by decide +kernel
theorem dX3_parts_0 : decode cX3_parts 0 = .ok (.iconst 0, 1) := by decide +kernel
theorem dX3_parts_1 : decode cX3_parts 1 = .ok (.istore_n 1, 1) := by decide +kernel
theorem dX3_parts_2 : decode cX3_parts 2 = .ok (.aload_n 0, 1) := by decide +kernel
theorem dX3_parts_3 : decode cX3_parts 3 = .ok (.getfield 15, 3) := by decide +kernel
theorem dX3_parts_6 : decode cX3_parts 6 = .ok (.lstore_n 2, 1) := by decide +kernel
theorem dX3_parts_7 : decode cX3_parts 7 = .ok (.iconst 0, 1) := by decide +kernel
theorem dX3_parts_8 : decode cX3_parts 8 = .ok (.istore 4, 2) := by decide +kernel
theorem dX3_parts_10 : decode cX3_parts 10 = .ok (.iload 4, 2) := by decide +kernel
theorem dX3_parts_12 : decode cX3_parts 12 = .ok (.bipush 64, 2) := by decide +kernel
theorem dX3_parts_14 : decode cX3_parts 14 = .ok (.if_icmp .ge 33, 3) := by decide +kernel
theorem dX3_parts_17 : decode cX3_parts 17 = .ok (.lload_n 2, 1) := by decide +kernel
theorem dX3_parts_18 : decode cX3_parts 18 = .ok (.lconst 0, 1) := by decide +kernel
theorem dX3_parts_19 : decode cX3_parts 19 = .ok (.lcmp, 1) := by decide +kernel
theorem dX3_parts_20 : decode cX3_parts 20 = .ok (.ifCond .eq 27, 3) := by decide +kernel
theorem dX3_parts_23 : decode cX3_parts 23 = .ok (.lload_n 2, 1) := by decide +kernel
theorem dX3_parts_24 : decode cX3_parts 24 = .ok (.aload_n 0, 1) := by decide +kernel
theorem dX3_parts_25 : decode cX3_parts 25 = .ok (.lload_n 2, 1) := by decide +kernel
theorem dX3_parts_26 : decode cX3_parts 26 = .ok (.invokestatic 41, 3) := by decide +kernel
theorem dX3_parts_29 : decode cX3_parts 29 = .ok (.invokevirtual 45, 3) := by decide +kernel
theorem dX3_parts_32 : decode cX3_parts 32 = .ok (.ldc2_w 48, 3) := by decide +kernel
theorem dX3_parts_35 : decode cX3_parts 35 = .ok (.lxor, 1) := by decide +kernel
theorem dX3_parts_36 : decode cX3_parts 36 = .ok (.land, 1) := by decide +kernel
theorem dX3_parts_37 : decode cX3_parts 37 = .ok (.lstore_n 2, 1) := by decide +kernel
theorem dX3_parts_38 : decode cX3_parts 38 = .ok (.iinc 1 1, 3) := by decide +kernel
theorem dX3_parts_41 : decode cX3_parts 41 = .ok (.iinc 4 1, 3) := by decide +kernel
theorem dX3_parts_44 : decode cX3_parts 44 = .ok (.goto (-34), 3) := by decide +kernel
theorem dX3_parts_47 : decode cX3_parts 47 = .ok (.iload_n 1, 1) := by decide +kernel
theorem dX3_parts_48 : decode cX3_parts 48 = .ok (.ireturn, 1) := by decide +kernel
theorem dX3_reach_0 : decode cX3_reach 0 = .ok (.aload_n 0, 1) := by decide +kernel
theorem dX3_reach_1 : decode cX3_reach 1 = .ok (.getfield 15, 3) := by decide +kernel
theorem dX3_reach_4 : decode cX3_reach 4 = .ok (.iload_n 1, 1) := by decide +kernel
theorem dX3_reach_5 : decode cX3_reach 5 = .ok (.invokestatic 33, 3) := by decide +kernel
theorem dX3_reach_8 : decode cX3_reach 8 = .ok (.land, 1) := by decide +kernel
theorem dX3_reach_9 : decode cX3_reach 9 = .ok (.lstore_n 2, 1) := by decide +kernel
theorem dX3_reach_10 : decode cX3_reach 10 = .ok (.aload_n 0, 1) := by decide +kernel
theorem dX3_reach_11 : decode cX3_reach 11 = .ok (.lload_n 2, 1) := by decide +kernel
theorem dX3_reach_12 : decode cX3_reach 12 = .ok (.invokevirtual 37, 3) := by decide +kernel
theorem dX3_reach_15 : decode cX3_reach 15 = .ok (.lstore 4, 2) := by decide +kernel
theorem dX3_reach_17 : decode cX3_reach 17 = .ok (.iconst 0, 1) := by decide +kernel
theorem dX3_reach_18 : decode cX3_reach 18 = .ok (.istore 6, 2) := by decide +kernel
theorem dX3_reach_20 : decode cX3_reach 20 = .ok (.iload 6, 2) := by decide +kernel
theorem dX3_reach_22 : decode cX3_reach 22 = .ok (.bipush 64, 2) := by decide +kernel
theorem dX3_reach_24 : decode cX3_reach 24 = .ok (.if_icmp .ge 26, 3) := by decide +kernel
theorem dX3_reach_27 : decode cX3_reach 27 = .ok (.lload 4, 2) := by decide +kernel
theorem dX3_reach_29 : decode cX3_reach 29 = .ok (.lload_n 2, 1) := by decide +kernel
theorem dX3_reach_30 : decode cX3_reach 30 = .ok (.lcmp, 1) := by decide +kernel
theorem dX3_reach_31 : decode cX3_reach 31 = .ok (.ifCond .eq 19, 3) := by decide +kernel
theorem dX3_reach_34 : decode cX3_reach 34 = .ok (.lload 4, 2) := by decide +kernel
theorem dX3_reach_36 : decode cX3_reach 36 = .ok (.lstore_n 2, 1) := by decide +kernel
theorem dX3_reach_37 : decode cX3_reach 37 = .ok (.aload_n 0, 1) := by decide +kernel
theorem dX3_reach_38 : decode cX3_reach 38 = .ok (.lload_n 2, 1) := by decide +kernel
theorem dX3_reach_39 : decode cX3_reach 39 = .ok (.invokevirtual 37, 3) := by decide +kernel
theorem dX3_reach_42 : decode cX3_reach 42 = .ok (.lstore 4, 2) := by decide +kernel
theorem dX3_reach_44 : decode cX3_reach 44 = .ok (.iinc 6 1, 3) := by decide +kernel
theorem dX3_reach_47 : decode cX3_reach 47 = .ok (.goto (-27), 3) := by decide +kernel
theorem dX3_reach_50 : decode cX3_reach 50 = .ok (.lload_n 2, 1) := by decide +kernel
theorem dX3_reach_51 : decode cX3_reach 51 = .ok (.lreturn, 1) := by decide +kernel
theorem dX3_sidesJoined_0 : decode cX3_sidesJoined 0 = .ok (.aload_n 0, 1) := by decide +kernel
theorem dX3_sidesJoined_1 : decode cX3_sidesJoined 1 = .ok (.getfield 24, 3) := by decide +kernel
theorem dX3_sidesJoined_4 : decode cX3_sidesJoined 4 = .ok (.iload_n 1, 1) := by decide +kernel
theorem dX3_sidesJoined_5 : decode cX3_sidesJoined 5 = .ok (.invokestatic 50, 3) := by decide +kernel
theorem dX3_sidesJoined_8 : decode cX3_sidesJoined 8 = .ok (.invokestatic 54, 3) := by decide +kernel
theorem dX3_sidesJoined_11 : decode cX3_sidesJoined 11 = .ok (.iconst 1, 1) := by decide +kernel
theorem dX3_sidesJoined_12 : decode cX3_sidesJoined 12 = .ok (.ishl, 1) := by decide +kernel
theorem dX3_sidesJoined_13 : decode cX3_sidesJoined 13 = .ok (.aload_n 0, 1) := by decide +kernel
theorem dX3_sidesJoined_14 : decode cX3_sidesJoined 14 = .ok (.getfield 29, 3) := by decide +kernel
theorem dX3_sidesJoined_17 : decode cX3_sidesJoined 17 = .ok (.iload_n 1, 1) := by decide +kernel
theorem dX3_sidesJoined_18 : decode cX3_sidesJoined 18 = .ok (.invokestatic 50, 3) := by decide +kernel
theorem dX3_sidesJoined_21 : decode cX3_sidesJoined 21 = .ok (.invokestatic 54, 3) := by decide +kernel
theorem dX3_sidesJoined_24 : decode cX3_sidesJoined 24 = .ok (.iconst 2, 1) := by decide +kernel
theorem dX3_sidesJoined_25 : decode cX3_sidesJoined 25 = .ok (.ishl, 1) := by decide +kernel
theorem dX3_sidesJoined_26 : decode cX3_sidesJoined 26 = .ok (.ior, 1) := by decide +kernel
theorem dX3_sidesJoined_27 : decode cX3_sidesJoined 27 = .ok (.istore_n 2, 1) := by decide +kernel
theorem dX3_sidesJoined_28 : decode cX3_sidesJoined 28 = .ok (.iload_n 1, 1) := by decide +kernel
theorem dX3_sidesJoined_29 : decode cX3_sidesJoined 29 = .ok (.iconst 0, 1) := by decide +kernel
theorem dX3_sidesJoined_30 : decode cX3_sidesJoined 30 = .ok (.invokestatic 58, 3) := by decide +kernel
theorem dX3_sidesJoined_33 : decode cX3_sidesJoined 33 = .ok (.istore_n 3, 1) := by decide +kernel
theorem dX3_sidesJoined_34 : decode cX3_sidesJoined 34 = .ok (.iload_n 1, 1) := by decide +kernel
theorem dX3_sidesJoined_35 : decode cX3_sidesJoined 35 = .ok (.iconst 3, 1) := by decide +kernel
theorem dX3_sidesJoined_36 : decode cX3_sidesJoined 36 = .ok (.invokestatic 58, 3) := by decide +kernel
theorem dX3_sidesJoined_39 : decode cX3_sidesJoined 39 = .ok (.istore 4, 2) := by decide +kernel
theorem dX3_sidesJoined_41 : decode cX3_sidesJoined 41 = .ok (.iload_n 3, 1) := by decide +kernel
theorem dX3_sidesJoined_42 : decode cX3_sidesJoined 42 = .ok (.iconst (-1), 1) := by decide +kernel
theorem dX3_sidesJoined_43 : decode cX3_sidesJoined 43 = .ok (.if_icmp .eq 17, 3) := by decide +kernel
theorem dX3_sidesJoined_46 : decode cX3_sidesJoined 46 = .ok (.iload_n 2, 1) := by decide +kernel
theorem dX3_sidesJoined_47 : decode cX3_sidesJoined 47 = .ok (.aload_n 0, 1) := by decide +kernel
theorem dX3_sidesJoined_48 : decode cX3_sidesJoined 48 = .ok (.getfield 29, 3) := by decide +kernel
theorem dX3_sidesJoined_51 : decode cX3_sidesJoined 51 = .ok (.iload_n 3, 1) := by decide +kernel
theorem dX3_sidesJoined_52 : decode cX3_sidesJoined 52 = .ok (.invokestatic 50, 3) := by decide +kernel
theorem dX3_sidesJoined_55 : decode cX3_sidesJoined 55 = .ok (.invokestatic 54, 3) := by decide +kernel
theorem dX3_sidesJoined_58 : decode cX3_sidesJoined 58 = .ok (.ior, 1) := by decide +kernel
theorem dX3_sidesJoined_59 : decode cX3_sidesJoined 59 = .ok (.istore_n 2, 1) := by decide +kernel
theorem dX3_sidesJoined_60 : decode cX3_sidesJoined 60 = .ok (.iload 4, 2) := by decide +kernel
theorem dX3_sidesJoined_62 : decode cX3_sidesJoined 62 = .ok (.iconst (-1), 1) := by decide +kernel
theorem dX3_sidesJoined_63 : decode cX3_sidesJoined 63 = .ok (.if_icmp .eq 20, 3) := by decide +kernel
theorem dX3_sidesJoined_66 : decode cX3_sidesJoined 66 = .ok (.iload_n 2, 1) := by decide +kernel
theorem dX3_sidesJoined_67 : decode cX3_sidesJoined 67 = .ok (.aload_n 0, 1) := by decide +kernel
theorem dX3_sidesJoined_68 : decode cX3_sidesJoined 68 = .ok (.getfield 24, 3) := by decide +kernel
theorem dX3_sidesJoined_71 : decode cX3_sidesJoined 71 = .ok (.iload 4, 2) := by decide +kernel
theorem dX3_sidesJoined_73 : decode cX3_sidesJoined 73 = .ok (.invokestatic 50, 3) := by decide +kernel
theorem dX3_sidesJoined_76 : decode cX3_sidesJoined 76 = .ok (.invokestatic 54, 3) := by decide +kernel
theorem dX3_sidesJoined_79 : decode cX3_sidesJoined 79 = .ok (.iconst 3, 1) := by decide +kernel
theorem dX3_sidesJoined_80 : decode cX3_sidesJoined 80 = .ok (.ishl, 1) := by decide +kernel
theorem dX3_sidesJoined_81 : decode cX3_sidesJoined 81 = .ok (.ior, 1) := by decide +kernel
theorem dX3_sidesJoined_82 : decode cX3_sidesJoined 82 = .ok (.istore_n 2, 1) := by decide +kernel
theorem dX3_sidesJoined_83 : decode cX3_sidesJoined 83 = .ok (.iload_n 2, 1) := by decide +kernel
theorem dX3_sidesJoined_84 : decode cX3_sidesJoined 84 = .ok (.ireturn, 1) := by decide +kernel
theorem dX3_spread_0 : decode cX3_spread 0 = .ok (.lload_n 1, 1) := by decide +kernel
theorem dX3_spread_1 : decode cX3_spread 1 = .ok (.aload_n 0, 1) := by decide +kernel
theorem dX3_spread_2 : decode cX3_spread 2 = .ok (.getfield 24, 3) := by decide +kernel
theorem dX3_spread_5 : decode cX3_spread 5 = .ok (.land, 1) := by decide +kernel
theorem dX3_spread_6 : decode cX3_spread 6 = .ok (.bipush 8, 2) := by decide +kernel
theorem dX3_spread_8 : decode cX3_spread 8 = .ok (.lshl, 1) := by decide +kernel
theorem dX3_spread_9 : decode cX3_spread 9 = .ok (.lstore_n 3, 1) := by decide +kernel
theorem dX3_spread_10 : decode cX3_spread 10 = .ok (.lload_n 1, 1) := by decide +kernel
theorem dX3_spread_11 : decode cX3_spread 11 = .ok (.bipush 8, 2) := by decide +kernel
theorem dX3_spread_13 : decode cX3_spread 13 = .ok (.lushr, 1) := by decide +kernel
theorem dX3_spread_14 : decode cX3_spread 14 = .ok (.aload_n 0, 1) := by decide +kernel
theorem dX3_spread_15 : decode cX3_spread 15 = .ok (.getfield 24, 3) := by decide +kernel
theorem dX3_spread_18 : decode cX3_spread 18 = .ok (.land, 1) := by decide +kernel
theorem dX3_spread_19 : decode cX3_spread 19 = .ok (.lstore 5, 2) := by decide +kernel
theorem dX3_spread_21 : decode cX3_spread 21 = .ok (.lload_n 1, 1) := by decide +kernel
theorem dX3_spread_22 : decode cX3_spread 22 = .ok (.aload_n 0, 1) := by decide +kernel
theorem dX3_spread_23 : decode cX3_spread 23 = .ok (.getfield 29, 3) := by decide +kernel
theorem dX3_spread_26 : decode cX3_spread 26 = .ok (.land, 1) := by decide +kernel
theorem dX3_spread_27 : decode cX3_spread 27 = .ok (.iconst 1, 1) := by decide +kernel
theorem dX3_spread_28 : decode cX3_spread 28 = .ok (.lshl, 1) := by decide +kernel
theorem dX3_spread_29 : decode cX3_spread 29 = .ok (.lstore 7, 2) := by decide +kernel
theorem dX3_spread_31 : decode cX3_spread 31 = .ok (.lload_n 1, 1) := by decide +kernel
theorem dX3_spread_32 : decode cX3_spread 32 = .ok (.iconst 1, 1) := by decide +kernel
theorem dX3_spread_33 : decode cX3_spread 33 = .ok (.lushr, 1) := by decide +kernel
theorem dX3_spread_34 : decode cX3_spread 34 = .ok (.aload_n 0, 1) := by decide +kernel
theorem dX3_spread_35 : decode cX3_spread 35 = .ok (.getfield 29, 3) := by decide +kernel
theorem dX3_spread_38 : decode cX3_spread 38 = .ok (.land, 1) := by decide +kernel
theorem dX3_spread_39 : decode cX3_spread 39 = .ok (.lstore 9, 2) := by decide +kernel
theorem dX3_spread_41 : decode cX3_spread 41 = .ok (.lload_n 1, 1) := by decide +kernel
theorem dX3_spread_42 : decode cX3_spread 42 = .ok (.lload_n 3, 1) := by decide +kernel
theorem dX3_spread_43 : decode cX3_spread 43 = .ok (.lor, 1) := by decide +kernel
theorem dX3_spread_44 : decode cX3_spread 44 = .ok (.lload 5, 2) := by decide +kernel
theorem dX3_spread_46 : decode cX3_spread 46 = .ok (.lor, 1) := by decide +kernel
theorem dX3_spread_47 : decode cX3_spread 47 = .ok (.lload 7, 2) := by decide +kernel
theorem dX3_spread_49 : decode cX3_spread 49 = .ok (.lor, 1) := by decide +kernel
theorem dX3_spread_50 : decode cX3_spread 50 = .ok (.lload 9, 2) := by decide +kernel
theorem dX3_spread_52 : decode cX3_spread 52 = .ok (.lor, 1) := by decide +kernel
theorem dX3_spread_53 : decode cX3_spread 53 = .ok (.lreturn, 1) := by decide +kernel
set_option maxHeartbeats 4000000 in
set_option maxRecDepth 100000 in
theorem f_X3_lay (l : Launch) (G : va_G) (cI cJ cZ cB cQ : ClassId) (sz : Nat) (h0 : Nat) (h1 : Nat) (p0 : Int32) (o_cells : Int64) (o_across : Int64) (o_down : Int64) (bs : Nat → Nat) (s_field : Int64) (s_houses : Int32) (s_f7 : Nat → Int64) (s_f8 : Nat → Int64) (s_f9 : Nat → Int64) (qp0_l : 0 ≤ p0.toInt) (qp0_h : p0.toInt ≤ 12) (hl_s_houses : 0 ≤ s_houses.toInt) (hh_s_houses : s_houses.toInt ≤ 6) : CV l yX3_lay (wl_ yX3_lay cX3_lay 3 none) ({ frames := 0, cells := 0, slots := 0, locals := 0 } : Room) G (TY cI cJ cZ cB cQ) [.ref h0, .ref h1, .int p0] [(h0, oX3 z0 o_cells o_across o_down), (h1, oX6 bs s_field s_houses), (bs 7, .inl (cJ, 13, .inr (.inl s_f7))), (bs 8, .inl (cJ, 13, .inr (.inl s_f8))), (bs 9, .inl (cJ, 13, .inr (.inl s_f9)))] sz (fun (u : Int64 × Int64 × Int64) => True) (fun u : Int64 × Int64 × Int64 => [(h0, oX3 z0 u.1 u.2.1 u.2.2), (h1, oX6 bs s_field s_houses), (bs 7, .inl (cJ, 13, .inr (.inl s_f7))), (bs 8, .inl (cJ, 13, .inr (.inl s_f8))), (bs 9, .inl (cJ, 13, .inr (.inl s_f9)))]) 0 0 := by
  refine CV.go (cc := cX3_lay) (maxL := 3) (ret := none) (by decide) rfl (Nat.le_of_ble_eq_true rfl) ?_
  intro p e s m below meth c A ls Q hBd hret
  obtain ⟨hx, hb, hr, hml, hts, hown, hlk, hnm, hP, hK, hD, hA, hZ, hl⟩ := hBd
  have hown : s.vm.findClass RX3 = some m.cls := hown
  have hl : lv_has ls 3 [(0, .ref h0), (1, .ref h1), (2, .int p0)] := hl
  have hS : va_S A s.heap s.heap [] := va_S.rf
  refine lv_aload_n hx hb dX3_lay_0 rfl (lv_at hl 0 rfl) ?_
  refine lv_aload_n hx hb dX3_lay_1 rfl (lv_at hl 1 rfl) ?_
  refine va_getN (D := G) (ci := 6) (v := .ref (bs 7)) (C := RX6) (T := TX6) (N := 12) hx hb hts iG_X6 hown hK hP 1 rfl rfl 7 (by decide) (nz_use hZ nw_247 rfl) (fun _ h9 => h9) rfl dX3_lay_2 ?_
  refine lv_iload_n hx hb dX3_lay_5 rfl (lv_at hl 2 rfl) ?_
  refine va_lald hx hb hK hP 2 1 rfl rfl (ix_in rfl (by omega) (by omega)) dX3_lay_6 ?_
  refine lv_topl (fun v1 ev1 => ?_)
  refine va_put (D := G) (ci := 3) (v := .long v1) (ty := .long) (C := RX3) (T := TX3) (N := 3) hx hb hts iG_X3 tyX3 tyX3_ok nmX3 hown hK hP hD hS 0 rfl rfl 0 (by decide) (hts _ w_306) (fun _ h9 => h9) rfl (by decide +kernel) rfl rfl (Nat.le_of_ble_eq_true rfl) dX3_lay_7 (fun H locs hP hD hS => ?_)
  have hP : va_P G vwCl [(h0, oX3 z0 v1 o_across o_down), (h1, oX6 bs s_field s_houses), (bs 7, .inl (cJ, 13, .inr (.inl s_f7))), (bs 8, .inl (cJ, 13, .inr (.inl s_f8))), (bs 9, .inl (cJ, 13, .inr (.inl s_f9)))] H := hP
  have hD : va_D A [(h0, oX3 z0 v1 o_across o_down), (h1, oX6 bs s_field s_houses), (bs 7, .inl (cJ, 13, .inr (.inl s_f7))), (bs 8, .inl (cJ, 13, .inr (.inl s_f8))), (bs 9, .inl (cJ, 13, .inr (.inl s_f9)))] := hD
  refine lv_aload_n hx hb dX3_lay_10 rfl (lv_at hl 0 rfl) ?_
  refine lv_aload_n hx hb dX3_lay_11 rfl (lv_at hl 1 rfl) ?_
  refine va_getN (D := G) (ci := 6) (v := .ref (bs 8)) (C := RX6) (T := TX6) (N := 12) hx hb hts iG_X6 hown hK hP 1 rfl rfl 8 (by decide) (nz_use hZ nw_251 rfl) (fun _ h9 => h9) rfl dX3_lay_12 ?_
  refine lv_iload_n hx hb dX3_lay_15 rfl (lv_at hl 2 rfl) ?_
  refine va_lald hx hb hK hP 3 1 rfl rfl (ix_in rfl (by omega) (by omega)) dX3_lay_16 ?_
  refine lv_topl (fun v2 ev2 => ?_)
  refine va_put (D := G) (ci := 3) (v := .long v2) (ty := .long) (C := RX3) (T := TX3) (N := 3) hx hb hts iG_X3 tyX3 tyX3_ok nmX3 hown hK hP hD hS 0 rfl rfl 1 (by decide) (hts _ w_307) (fun _ h9 => h9) rfl (by decide +kernel) rfl rfl (Nat.le_of_ble_eq_true rfl) dX3_lay_17 (fun H locs hP hD hS => ?_)
  have hP : va_P G vwCl [(h0, oX3 z0 v1 v2 o_down), (h1, oX6 bs s_field s_houses), (bs 7, .inl (cJ, 13, .inr (.inl s_f7))), (bs 8, .inl (cJ, 13, .inr (.inl s_f8))), (bs 9, .inl (cJ, 13, .inr (.inl s_f9)))] H := hP
  have hD : va_D A [(h0, oX3 z0 v1 v2 o_down), (h1, oX6 bs s_field s_houses), (bs 7, .inl (cJ, 13, .inr (.inl s_f7))), (bs 8, .inl (cJ, 13, .inr (.inl s_f8))), (bs 9, .inl (cJ, 13, .inr (.inl s_f9)))] := hD
  refine lv_aload_n hx hb dX3_lay_20 rfl (lv_at hl 0 rfl) ?_
  refine lv_aload_n hx hb dX3_lay_21 rfl (lv_at hl 1 rfl) ?_
  refine va_getN (D := G) (ci := 6) (v := .ref (bs 9)) (C := RX6) (T := TX6) (N := 12) hx hb hts iG_X6 hown hK hP 1 rfl rfl 9 (by decide) (nz_use hZ nw_253 rfl) (fun _ h9 => h9) rfl dX3_lay_22 ?_
  refine lv_iload_n hx hb dX3_lay_25 rfl (lv_at hl 2 rfl) ?_
  refine va_lald hx hb hK hP 4 1 rfl rfl (ix_in rfl (by omega) (by omega)) dX3_lay_26 ?_
  refine lv_topl (fun v3 ev3 => ?_)
  refine va_put (D := G) (ci := 3) (v := .long v3) (ty := .long) (C := RX3) (T := TX3) (N := 3) hx hb hts iG_X3 tyX3 tyX3_ok nmX3 hown hK hP hD hS 0 rfl rfl 2 (by decide) (hts _ w_308) (fun _ h9 => h9) rfl (by decide +kernel) rfl rfl (Nat.le_of_ble_eq_true rfl) dX3_lay_27 (fun H locs hP hD hS => ?_)
  have hP : va_P G vwCl [(h0, oX3 z0 v1 v2 v3), (h1, oX6 bs s_field s_houses), (bs 7, .inl (cJ, 13, .inr (.inl s_f7))), (bs 8, .inl (cJ, 13, .inr (.inl s_f8))), (bs 9, .inl (cJ, 13, .inr (.inl s_f9)))] H := hP
  have hD : va_D A [(h0, oX3 z0 v1 v2 v3), (h1, oX6 bs s_field s_houses), (bs 7, .inl (cJ, 13, .inr (.inl s_f7))), (bs 8, .inl (cJ, 13, .inr (.inl s_f8))), (bs 9, .inl (cJ, 13, .inr (.inl s_f9)))] := hD
  exact hret _ _ _ _ (v1, v2, v3) hP hD hS dX3_lay_30 trivial
set_option maxHeartbeats 4000000 in
set_option maxRecDepth 100000 in
theorem f_X3_layAll (l : Launch) (G : va_G) (cI cJ cZ cB cQ : ClassId) (sz : Nat) (h0 : Nat) (p0 : Int64) (o_cells : Int64) (o_across : Int64) (o_down : Int64) : CV l yX3_layAll (wl_ yX3_layAll cX3_layAll 3 none) ({ frames := 0, cells := 0, slots := 0, locals := 0 } : Room) G (TY cI cJ cZ cB cQ) [.ref h0, .long p0] [(h0, oX3 z0 o_cells o_across o_down)] sz (fun (u : Int64 × Int64 × Int64) => True) (fun u : Int64 × Int64 × Int64 => [(h0, oX3 z0 u.1 u.2.1 u.2.2)]) 0 0 := by
  refine CV.go (cc := cX3_layAll) (maxL := 3) (ret := none) (by decide) rfl (Nat.le_of_ble_eq_true rfl) ?_
  intro p e s m below meth c A ls Q hBd hret
  obtain ⟨hx, hb, hr, hml, hts, hown, hlk, hnm, hP, hK, hD, hA, hZ, hl⟩ := hBd
  have hown : s.vm.findClass RX3 = some m.cls := hown
  have hl : lv_has ls 3 [(0, .ref h0), (1, .long p0)] := hl
  have hS : va_S A s.heap s.heap [] := va_S.rf
  refine lv_aload_n hx hb dX3_layAll_0 rfl (lv_at hl 0 rfl) ?_
  refine lv_lload_n hx hb dX3_layAll_1 rfl (lv_at hl 1 rfl) ?_
  refine va_put (D := G) (ci := 3) (v := .long p0) (ty := .long) (C := RX3) (T := TX3) (N := 3) hx hb hts iG_X3 tyX3 tyX3_ok nmX3 hown hK hP hD hS 0 rfl rfl 0 (by decide) (hts _ w_306) (fun _ h9 => h9) rfl (by decide +kernel) rfl rfl (Nat.le_of_ble_eq_true rfl) dX3_layAll_2 (fun H locs hP hD hS => ?_)
  have hP : va_P G vwCl [(h0, oX3 z0 p0 o_across o_down)] H := hP
  have hD : va_D A [(h0, oX3 z0 p0 o_across o_down)] := hD
  refine lv_aload_n hx hb dX3_layAll_5 rfl (lv_at hl 0 rfl) ?_
  refine lv_lload_n hx hb dX3_layAll_6 rfl (lv_at hl 1 rfl) ?_
  refine lv_lload_n hx hb dX3_layAll_7 rfl (lv_at hl 1 rfl) ?_
  refine lv_bipush (v := 8) hx hb dX3_layAll_8 (by decide) ?_
  refine lv_lushr hx hb dX3_layAll_10 rfl ?_
  refine lv_topl (fun v1 ev1 => ?_)
  refine lv_land hx hb dX3_layAll_11 ?_
  refine lv_topl (fun v2 ev2 => ?_)
  refine va_put (D := G) (ci := 3) (v := .long v2) (ty := .long) (C := RX3) (T := TX3) (N := 3) hx hb hts iG_X3 tyX3 tyX3_ok nmX3 hown hK hP hD hS 0 rfl rfl 1 (by decide) (hts _ w_307) (fun _ h9 => h9) rfl (by decide +kernel) rfl rfl (Nat.le_of_ble_eq_true rfl) dX3_layAll_12 (fun H locs hP hD hS => ?_)
  have hP : va_P G vwCl [(h0, oX3 z0 p0 v2 o_down)] H := hP
  have hD : va_D A [(h0, oX3 z0 p0 v2 o_down)] := hD
  refine lv_aload_n hx hb dX3_layAll_15 rfl (lv_at hl 0 rfl) ?_
  refine lv_lload_n hx hb dX3_layAll_16 rfl (lv_at hl 1 rfl) ?_
  refine lv_lload_n hx hb dX3_layAll_17 rfl (lv_at hl 1 rfl) ?_
  refine lv_iconst (v := 1) hx hb dX3_layAll_18 (by decide) ?_
  refine lv_lushr hx hb dX3_layAll_19 rfl ?_
  refine lv_topl (fun v3 ev3 => ?_)
  refine lv_land hx hb dX3_layAll_20 ?_
  refine lv_topl (fun v4 ev4 => ?_)
  refine lv_ldc2 (v := 9187201950435737471) hx hb hown (hts _ w_746) dX3_layAll_21 ?_
  refine lv_land hx hb dX3_layAll_24 ?_
  refine lv_topl (fun v5 ev5 => ?_)
  refine va_put (D := G) (ci := 3) (v := .long v5) (ty := .long) (C := RX3) (T := TX3) (N := 3) hx hb hts iG_X3 tyX3 tyX3_ok nmX3 hown hK hP hD hS 0 rfl rfl 2 (by decide) (hts _ w_308) (fun _ h9 => h9) rfl (by decide +kernel) rfl rfl (Nat.le_of_ble_eq_true rfl) dX3_layAll_25 (fun H locs hP hD hS => ?_)
  have hP : va_P G vwCl [(h0, oX3 z0 p0 v2 v5)] H := hP
  have hD : va_D A [(h0, oX3 z0 p0 v2 v5)] := hD
  exact hret _ _ _ _ (p0, v2, v5) hP hD hS dX3_layAll_28 trivial
set_option maxHeartbeats 4000000 in
set_option maxRecDepth 100000 in
theorem f_X3_spread (l : Launch) (G : va_G) (cI cJ cZ cB cQ : ClassId) (sz : Nat) (h0 : Nat) (p0 : Int64) (o_cells : Int64) (o_across : Int64) (o_down : Int64) : CL l yX3_spread (wl_ yX3_spread cX3_spread 11 (some .long)) ({ frames := 0, cells := 0, slots := 0, locals := 0 } : Room) G (TY cI cJ cZ cB cQ) [.ref h0, .long p0] [(h0, oX3 z0 o_cells o_across o_down)] sz (fun (r : Int64) (u : Unit) => True) (fun _ : Unit => [(h0, oX3 z0 o_cells o_across o_down)]) 0 0 := by
  refine CL.go (cc := cX3_spread) (maxL := 11) (ret := (some .long)) (by decide) rfl (Nat.le_of_ble_eq_true rfl) ?_
  intro p e s m below meth c A ls Q hBd hret
  obtain ⟨hx, hb, hr, hml, hts, hown, hlk, hnm, hP, hK, hD, hA, hZ, hl⟩ := hBd
  have hown : s.vm.findClass RX3 = some m.cls := hown
  have hl : lv_has ls 11 [(0, .ref h0), (1, .long p0)] := hl
  have hS : va_S A s.heap s.heap [] := va_S.rf
  refine lv_lload_n hx hb dX3_spread_0 rfl (lv_at hl 1 rfl) ?_
  refine lv_aload_n hx hb dX3_spread_1 rfl (lv_at hl 0 rfl) ?_
  refine va_get (D := G) (ci := 3) (v := .long o_across) (C := RX3) (T := TX3) (N := 3) hx hb hts iG_X3 hown hK hP 0 rfl rfl 1 (by decide) (hts _ w_307) (fun _ h9 => h9) rfl dX3_spread_2 ?_
  refine lv_land hx hb dX3_spread_5 ?_
  refine lv_topl (fun v1 ev1 => ?_)
  refine lv_bipush (v := 8) hx hb dX3_spread_6 (by decide) ?_
  refine lv_lshl hx hb dX3_spread_8 rfl ?_
  refine lv_topl (fun v2 ev2 => ?_)
  refine lv_lstore_n (lv' := [(3, .long v2), (0, .ref h0), (1, .long p0)]) hx hb dX3_spread_9 rfl hl (by decide) rfl (fun ls hl => ?_)
  refine lv_lload_n hx hb dX3_spread_10 rfl (lv_at hl 2 rfl) ?_
  refine lv_bipush (v := 8) hx hb dX3_spread_11 (by decide) ?_
  refine lv_lushr hx hb dX3_spread_13 rfl ?_
  refine lv_topl (fun v3 ev3 => ?_)
  refine lv_aload_n hx hb dX3_spread_14 rfl (lv_at hl 1 rfl) ?_
  refine va_get (D := G) (ci := 3) (v := .long o_across) (C := RX3) (T := TX3) (N := 3) hx hb hts iG_X3 hown hK hP 0 rfl rfl 1 (by decide) (hts _ w_307) (fun _ h9 => h9) rfl dX3_spread_15 ?_
  refine lv_land hx hb dX3_spread_18 ?_
  refine lv_topl (fun v4 ev4 => ?_)
  refine lv_lstore (lv' := [(5, .long v4), (3, .long v2), (0, .ref h0), (1, .long p0)]) hx hb dX3_spread_19 hl (by decide) rfl (fun ls hl => ?_)
  refine lv_lload_n hx hb dX3_spread_21 rfl (lv_at hl 3 rfl) ?_
  refine lv_aload_n hx hb dX3_spread_22 rfl (lv_at hl 2 rfl) ?_
  refine va_get (D := G) (ci := 3) (v := .long o_down) (C := RX3) (T := TX3) (N := 3) hx hb hts iG_X3 hown hK hP 0 rfl rfl 2 (by decide) (hts _ w_308) (fun _ h9 => h9) rfl dX3_spread_23 ?_
  refine lv_land hx hb dX3_spread_26 ?_
  refine lv_topl (fun v5 ev5 => ?_)
  refine lv_iconst (v := 1) hx hb dX3_spread_27 (by decide) ?_
  refine lv_lshl hx hb dX3_spread_28 rfl ?_
  refine lv_topl (fun v6 ev6 => ?_)
  refine lv_lstore (lv' := [(7, .long v6), (5, .long v4), (3, .long v2), (0, .ref h0), (1, .long p0)]) hx hb dX3_spread_29 hl (by decide) rfl (fun ls hl => ?_)
  refine lv_lload_n hx hb dX3_spread_31 rfl (lv_at hl 4 rfl) ?_
  refine lv_iconst (v := 1) hx hb dX3_spread_32 (by decide) ?_
  refine lv_lushr hx hb dX3_spread_33 rfl ?_
  refine lv_topl (fun v7 ev7 => ?_)
  refine lv_aload_n hx hb dX3_spread_34 rfl (lv_at hl 3 rfl) ?_
  refine va_get (D := G) (ci := 3) (v := .long o_down) (C := RX3) (T := TX3) (N := 3) hx hb hts iG_X3 hown hK hP 0 rfl rfl 2 (by decide) (hts _ w_308) (fun _ h9 => h9) rfl dX3_spread_35 ?_
  refine lv_land hx hb dX3_spread_38 ?_
  refine lv_topl (fun v8 ev8 => ?_)
  refine lv_lstore (lv' := [(9, .long v8), (7, .long v6), (5, .long v4), (3, .long v2), (0, .ref h0), (1, .long p0)]) hx hb dX3_spread_39 hl (by decide) rfl (fun ls hl => ?_)
  refine lv_lload_n hx hb dX3_spread_41 rfl (lv_at hl 5 rfl) ?_
  refine lv_lload_n hx hb dX3_spread_42 rfl (lv_at hl 3 rfl) ?_
  refine lv_lor hx hb dX3_spread_43 ?_
  refine lv_topl (fun v9 ev9 => ?_)
  refine lv_lload hx hb dX3_spread_44 (lv_at hl 2 rfl) ?_
  refine lv_lor hx hb dX3_spread_46 ?_
  refine lv_topl (fun v10 ev10 => ?_)
  refine lv_lload hx hb dX3_spread_47 (lv_at hl 1 rfl) ?_
  refine lv_lor hx hb dX3_spread_49 ?_
  refine lv_topl (fun v11 ev11 => ?_)
  refine lv_lload hx hb dX3_spread_50 (lv_at hl 0 rfl) ?_
  refine lv_lor hx hb dX3_spread_52 ?_
  refine lv_topl (fun v12 ev12 => ?_)
  exact hret _ _ _ _ v12 () hP hD hS dX3_spread_53 trivial
set_option maxHeartbeats 4000000 in
set_option maxRecDepth 100000 in
theorem f_X3_reach (l : Launch) (G : va_G) (cI cJ cZ cB cQ : ClassId) (sz : Nat) (h0 : Nat) (p0 : Int32) (o_cells : Int64) (o_across : Int64) (o_down : Int64) : CL l yX3_reach (wl_ yX3_reach cX3_reach 7 (some .long)) ({ frames := 1, cells := 0, slots := 0, locals := 30 } : Room) G (TY cI cJ cZ cB cQ) [.ref h0, .int p0] [(h0, oX3 z0 o_cells o_across o_down)] sz (fun (r : Int64) (u : Unit) => True) (fun _ : Unit => [(h0, oX3 z0 o_cells o_across o_down)]) 0 0 := by
  refine CL.go (cc := cX3_reach) (maxL := 7) (ret := (some .long)) (by decide) rfl (Nat.le_of_ble_eq_true rfl) ?_
  intro p e s m below meth c A ls Q hBd hret
  obtain ⟨hx, hb, hr, hml, hts, hown, hlk, hnm, hP, hK, hD, hA, hZ, hl⟩ := hBd
  have hown : s.vm.findClass RX3 = some m.cls := hown
  have hl : lv_has ls 7 [(0, .ref h0), (1, .int p0)] := hl
  have hS : va_S A s.heap s.heap [] := va_S.rf
  refine lv_aload_n hx hb dX3_reach_0 rfl (lv_at hl 0 rfl) ?_
  refine va_get (D := G) (ci := 3) (v := .long o_cells) (C := RX3) (T := TX3) (N := 3) hx hb hts iG_X3 hown hK hP 0 rfl rfl 0 (by decide) (hts _ w_306) (fun _ h9 => h9) rfl dX3_reach_1 ?_
  refine lv_iload_n hx hb dX3_reach_4 rfl (lv_at hl 1 rfl) ?_
  refine k_l (wc := []) (wr := [(h0, oX3 z0 o_cells o_across o_down)]) hP hD hS hA [] [0] rfl rfl rfl (by decide) (va_runSN (As := [.int p0]) (rest := [.long o_cells]) ⟨hx, hb, hml, hown, hts⟩ (f_X9_bit l G cI cJ cZ cB cQ _ p0) ⟨va_cnB (host := "WidowRoads") 1 hts (gW w_519) rfl rfl rfl (nz_nw hZ nw_751 rfl) (hts _ w_1) hd_X9_bit ⟨Nat.le_of_ble_eq_true rfl, Nat.le_of_ble_eq_true rfl⟩, (hts _ w_518), trivial⟩ (mS hK hZ hP hD [] rfl rfl [.int p0]) rfl rfl hl.1 rfl (lv_room (Nat.le_of_ble_eq_true rfl)) dX3_reach_5 ⟨Nat.le_of_ble_eq_true rfl, Nat.le_of_ble_eq_true rfl⟩) (fun r1 u2 H locs hw3 hP hD hS => ?_)
  try dsimp only at hw3
  have hP : va_P G vwCl [(h0, oX3 z0 o_cells o_across o_down)] H := hP
  have hD : va_D A [(h0, oX3 z0 o_cells o_across o_down)] := hD
  refine lv_land hx hb dX3_reach_8 ?_
  refine lv_topl (fun v4 ev4 => ?_)
  refine lv_lstore_n (lv' := [(2, .long v4), (0, .ref h0), (1, .int p0)]) hx hb dX3_reach_9 rfl hl (by decide) rfl (fun ls hl => ?_)
  refine lv_aload_n hx hb dX3_reach_10 rfl (lv_at hl 1 rfl) ?_
  refine lv_lload_n hx hb dX3_reach_11 rfl (lv_at hl 0 rfl) ?_
  refine k_l (wc := [(h0, oX3 z0 o_cells o_across o_down)]) (wr := []) hP hD hS hA [0] [] rfl rfl rfl (by decide) (va_runV (As := [.long v4]) (rest := []) ⟨hx, hb, hml, hown, hts⟩ (f_X3_spread l G cI cJ cZ cB cQ _ h0 v4 o_cells o_across o_down) (cwV 1 hts (gV w_753 w_755 wp_43 w_8 w_756) rfl rfl rfl ⟨rfl, hd_X3_spread⟩ ⟨Nat.le_of_ble_eq_true rfl, Nat.le_of_ble_eq_true rfl⟩) (mV hK hZ hP hD [0] rfl rfl [.long v4] 0 3 rfl rfl) rfl rfl hl.1 rfl (lv_room (Nat.le_of_ble_eq_true rfl)) dX3_reach_12 ⟨Nat.le_of_ble_eq_true rfl, Nat.le_of_ble_eq_true rfl⟩) (fun r5 u6 H locs hw7 hP hD hS => ?_)
  try dsimp only at hw7
  have hP : va_P G vwCl [(h0, oX3 z0 o_cells o_across o_down)] H := hP
  have hD : va_D A [(h0, oX3 z0 o_cells o_across o_down)] := hD
  refine lv_lstore (lv' := [(4, .long r5), (2, .long v4), (0, .ref h0), (1, .int p0)]) hx hb dX3_reach_15 hl (by decide) rfl (fun ls hl => ?_)
  refine lv_iconst (v := 0) hx hb dX3_reach_17 (by decide) ?_
  refine lv_istore (lv' := [(6, .int 0), (4, .long r5), (2, .long v4), (0, .ref h0), (1, .int p0)]) hx hb dX3_reach_18 hl (by decide) rfl (fun ls hl => ?_)
  have lp8 : ∀ (n9 : Nat) (x10 : Int32) (y11 : Int64) (y12 : Int64), 0 ≤ x10.toInt → x10.toInt ≤ 64 → 64 - x10.toInt < (n9 : Int) → ∀ (H : Heap) (locs : List Loc), va_P G vwCl [(h0, oX3 z0 o_cells o_across o_down)] H → va_D A [(h0, oX3 z0 o_cells o_across o_down)] → va_S A s.heap H locs → ∀ (ls : Array Slot), lv_has ls 7 [(6, .int x10), (4, .long y12), (2, .long y11), (0, .ref h0), (1, .int p0)] → W p l e ({ frames := 1, cells := 0, slots := 0, locals := 30 } : Room) s m ([.ref h0, .int p0] : List Value).toArray below meth c H locs 0 0 Q (F0 m 20 ls []) := by
    intro n9
    induction n9 with
    | zero =>
      intro x10 y11 y12 k13 k14 mm16
      exact absurd mm16 (by have q9 := fb_rng x10; omega)
    | succ n9 ih15 =>
      intro x10 y11 y12 k13 k14 mm16 H locs hP hD hS ls hl
      refine lv_iload hx hb dX3_reach_20 (lv_at hl 0 rfl) ?_
      refine lv_bipush (v := 64) hx hb dX3_reach_22 (by decide) ?_
      refine lv_icmp_ge (tgt := 50) hx hb dX3_reach_24 (by decide) (fun c17 => ?_) (fun c17 => ?_)
      · have c17 := i_le ki_64 rfl c17
        refine lv_lload_n hx hb dX3_reach_50 rfl (lv_at hl 2 rfl) ?_
        exact hret _ _ _ _ y11 () hP hD hS dX3_reach_51 trivial
      · have c17 := i_nle ki_64 rfl c17
        refine lv_lload hx hb dX3_reach_27 (lv_at hl 1 rfl) ?_
        refine lv_lload_n hx hb dX3_reach_29 rfl (lv_at hl 2 rfl) ?_
        refine W.lcmp hx hb dX3_reach_30 ?_
        refine lv_if_eq (tgt := 50) hx hb dX3_reach_31 (by decide) (fun c18 => ?_) (fun c18 => ?_)
        · have c18 := c_eq rfl rfl c18
          refine lv_lload_n hx hb dX3_reach_50 rfl (lv_at hl 2 rfl) ?_
          exact hret _ _ _ _ y11 () hP hD hS dX3_reach_51 trivial
        · have c18 := c_neq rfl rfl c18
          refine lv_lload hx hb dX3_reach_34 (lv_at hl 1 rfl) ?_
          refine lv_lstore_n (lv' := [(2, .long y12), (6, .int x10), (4, .long y12), (0, .ref h0), (1, .int p0)]) hx hb dX3_reach_36 rfl hl (by decide) rfl (fun ls hl => ?_)
          refine lv_aload_n hx hb dX3_reach_37 rfl (lv_at hl 3 rfl) ?_
          refine lv_lload_n hx hb dX3_reach_38 rfl (lv_at hl 0 rfl) ?_
          refine k_l (wc := [(h0, oX3 z0 o_cells o_across o_down)]) (wr := []) hP hD hS hA [0] [] rfl rfl rfl (by decide) (va_runV (As := [.long y12]) (rest := []) ⟨hx, hb, hml, hown, hts⟩ (f_X3_spread l G cI cJ cZ cB cQ _ h0 y12 o_cells o_across o_down) (cwV 1 hts (gV w_753 w_755 wp_43 w_8 w_756) rfl rfl rfl ⟨rfl, hd_X3_spread⟩ ⟨Nat.le_of_ble_eq_true rfl, Nat.le_of_ble_eq_true rfl⟩) (mV hK hZ hP hD [0] rfl rfl [.long y12] 0 3 rfl rfl) rfl rfl hl.1 rfl (lv_room (Nat.le_of_ble_eq_true rfl)) dX3_reach_39 ⟨Nat.le_of_ble_eq_true rfl, Nat.le_of_ble_eq_true rfl⟩) (fun r19 u20 H locs hw21 hP hD hS => ?_)
          try dsimp only at hw21
          have hP : va_P G vwCl [(h0, oX3 z0 o_cells o_across o_down)] H := hP
          have hD : va_D A [(h0, oX3 z0 o_cells o_across o_down)] := hD
          refine lv_lstore (lv' := [(4, .long r19), (2, .long y12), (6, .int x10), (0, .ref h0), (1, .int p0)]) hx hb dX3_reach_42 hl (by decide) rfl (fun ls hl => ?_)
          obtain ⟨v22, ev22⟩ : ∃ y : Int32, y = x10 + 1 := ⟨_, rfl⟩
          have tv22 : v22.toInt = x10.toInt + 1 := ti_add rfl ki_1 ev22 (by omega) (by omega)
          refine lv_iinc (v := v22) (lv' := [(6, .int v22), (4, .long r19), (2, .long y12), (0, .ref h0), (1, .int p0)]) hx hb dX3_reach_44 hl (k := 2) rfl (by rw [ev22]; rfl) (by decide) rfl (fun ls hl => ?_)
          refine lv_goto (tgt := 20) hx hb dX3_reach_47 (by decide) ?_
          exact ih15 v22 y12 r19 (by omega) (by omega) (by omega) _ _ hP hD hS ls (lv_sub hl [0, 1, 2, 3, 4] rfl)
  exact lp8 65 0 v4 r5 (by rw [ki_0]; decide) (by rw [ki_0]; decide) (by rw [ki_0]; decide) _ _ hP hD hS ls (lv_sub hl [0, 1, 2, 3, 4] rfl)
set_option maxHeartbeats 4000000 in
set_option maxRecDepth 100000 in
theorem f_X3_parts (l : Launch) (G : va_G) (cI cJ cZ cB cQ : ClassId) (sz : Nat) (h0 : Nat) (o_cells : Int64) (o_across : Int64) (o_down : Int64) : CI l yX3_parts (wl_ yX3_parts cX3_parts 5 (some .int)) ({ frames := 2, cells := 0, slots := 0, locals := 56 } : Room) G (TY cI cJ cZ cB cQ) [.ref h0] [(h0, oX3 z0 o_cells o_across o_down)] sz (fun (r : Int32) (u : Unit) => True) (fun _ : Unit => [(h0, oX3 z0 o_cells o_across o_down)]) 0 0 := by
  refine CI.go (cc := cX3_parts) (maxL := 5) (ret := (some .int)) (by decide) rfl (Nat.le_of_ble_eq_true rfl) ?_
  intro p e s m below meth c A ls Q hBd hret
  obtain ⟨hx, hb, hr, hml, hts, hown, hlk, hnm, hP, hK, hD, hA, hZ, hl⟩ := hBd
  have hown : s.vm.findClass RX3 = some m.cls := hown
  have hl : lv_has ls 5 [(0, .ref h0)] := hl
  have hS : va_S A s.heap s.heap [] := va_S.rf
  refine lv_iconst (v := 0) hx hb dX3_parts_0 (by decide) ?_
  refine lv_istore_n (lv' := [(1, .int 0), (0, .ref h0)]) hx hb dX3_parts_1 rfl hl (by decide) rfl (fun ls hl => ?_)
  refine lv_aload_n hx hb dX3_parts_2 rfl (lv_at hl 1 rfl) ?_
  refine va_get (D := G) (ci := 3) (v := .long o_cells) (C := RX3) (T := TX3) (N := 3) hx hb hts iG_X3 hown hK hP 0 rfl rfl 0 (by decide) (hts _ w_306) (fun _ h9 => h9) rfl dX3_parts_3 ?_
  refine lv_lstore_n (lv' := [(2, .long o_cells), (1, .int 0), (0, .ref h0)]) hx hb dX3_parts_6 rfl hl (by decide) rfl (fun ls hl => ?_)
  refine lv_iconst (v := 0) hx hb dX3_parts_7 (by decide) ?_
  refine lv_istore (lv' := [(4, .int 0), (2, .long o_cells), (1, .int 0), (0, .ref h0)]) hx hb dX3_parts_8 hl (by decide) rfl (fun ls hl => ?_)
  have lp1 : ∀ (n2 : Nat) (x3 : Int32) (x4 : Int32) (y5 : Int64), 0 ≤ x4.toInt → x4.toInt ≤ 64 → 64 - x4.toInt < (n2 : Int) → ∀ (H : Heap) (locs : List Loc), va_P G vwCl [(h0, oX3 z0 o_cells o_across o_down)] H → va_D A [(h0, oX3 z0 o_cells o_across o_down)] → va_S A s.heap H locs → ∀ (ls : Array Slot), lv_has ls 5 [(4, .int x4), (2, .long y5), (1, .int x3), (0, .ref h0)] → W p l e ({ frames := 2, cells := 0, slots := 0, locals := 56 } : Room) s m ([.ref h0] : List Value).toArray below meth c H locs 0 0 Q (F0 m 10 ls []) := by
    intro n2
    induction n2 with
    | zero =>
      intro x3 x4 y5 k6 k7 mm9
      exact absurd mm9 (by have q9 := fb_rng x4; omega)
    | succ n2 ih8 =>
      intro x3 x4 y5 k6 k7 mm9 H locs hP hD hS ls hl
      refine lv_iload hx hb dX3_parts_10 (lv_at hl 0 rfl) ?_
      refine lv_bipush (v := 64) hx hb dX3_parts_12 (by decide) ?_
      refine lv_icmp_ge (tgt := 47) hx hb dX3_parts_14 (by decide) (fun c10 => ?_) (fun c10 => ?_)
      · have c10 := i_le ki_64 rfl c10
        refine lv_iload_n hx hb dX3_parts_47 rfl (lv_at hl 2 rfl) ?_
        exact hret _ _ _ _ x3 () hP hD hS dX3_parts_48 trivial
      · have c10 := i_nle ki_64 rfl c10
        refine lv_lload_n hx hb dX3_parts_17 rfl (lv_at hl 1 rfl) ?_
        refine lv_lconst (v := 0) hx hb dX3_parts_18 (by decide) ?_
        refine W.lcmp hx hb dX3_parts_19 ?_
        refine lv_if_eq (tgt := 47) hx hb dX3_parts_20 (by decide) (fun c11 => ?_) (fun c11 => ?_)
        · have c11 := c_eq rfl kl_0 c11
          refine lv_iload_n hx hb dX3_parts_47 rfl (lv_at hl 2 rfl) ?_
          exact hret _ _ _ _ x3 () hP hD hS dX3_parts_48 trivial
        · have c11 := c_neq rfl kl_0 c11
          refine lv_lload_n hx hb dX3_parts_23 rfl (lv_at hl 1 rfl) ?_
          refine lv_aload_n hx hb dX3_parts_24 rfl (lv_at hl 3 rfl) ?_
          refine lv_lload_n hx hb dX3_parts_25 rfl (lv_at hl 1 rfl) ?_
          refine k_i (wc := []) (wr := [(h0, oX3 z0 o_cells o_across o_down)]) hP hD hS hA [] [0] rfl rfl rfl (by decide) (va_runSN (As := [.long y5]) (rest := [.ref h0, .long y5]) ⟨hx, hb, hml, hown, hts⟩ (f_X9_leastOf l G cI cJ cZ cB cQ _ y5) ⟨va_cnB (host := "WidowRoads") 1 hts (gW w_638) rfl rfl rfl (nz_nw hZ nw_811 rfl) (hts _ w_1) hd_X9_leastOf ⟨Nat.le_of_ble_eq_true rfl, Nat.le_of_ble_eq_true rfl⟩, (hts _ w_637), trivial⟩ (mS hK hZ hP hD [] rfl rfl [.long y5]) rfl rfl hl.1 rfl (lv_room (Nat.le_of_ble_eq_true rfl)) dX3_parts_26 ⟨Nat.le_of_ble_eq_true rfl, Nat.le_of_ble_eq_true rfl⟩) (fun r12 u13 H locs hw14 hP hD hS => ?_)
          try dsimp only at hw14
          have hP : va_P G vwCl [(h0, oX3 z0 o_cells o_across o_down)] H := hP
          have hD : va_D A [(h0, oX3 z0 o_cells o_across o_down)] := hD
          refine k_l (wc := [(h0, oX3 z0 o_cells o_across o_down)]) (wr := []) hP hD hS hA [0] [] rfl rfl rfl (by decide) (va_runV (As := [.int r12]) (rest := [.long y5]) ⟨hx, hb, hml, hown, hts⟩ (f_X3_reach l G cI cJ cZ cB cQ _ h0 r12 o_cells o_across o_down) (cwV 1 hts (gV w_812 w_814 wp_49 w_8 w_815) rfl rfl rfl ⟨rfl, hd_X3_reach⟩ ⟨Nat.le_of_ble_eq_true rfl, Nat.le_of_ble_eq_true rfl⟩) (mV hK hZ hP hD [0] rfl rfl [.int r12] 0 3 rfl rfl) rfl rfl hl.1 rfl (lv_room (Nat.le_of_ble_eq_true rfl)) dX3_parts_29 ⟨Nat.le_of_ble_eq_true rfl, Nat.le_of_ble_eq_true rfl⟩) (fun r15 u16 H locs hw17 hP hD hS => ?_)
          try dsimp only at hw17
          have hP : va_P G vwCl [(h0, oX3 z0 o_cells o_across o_down)] H := hP
          have hD : va_D A [(h0, oX3 z0 o_cells o_across o_down)] := hD
          refine lv_ldc2 (v := (-1)) hx hb hown (hts _ w_816) dX3_parts_32 ?_
          refine lv_lxor hx hb dX3_parts_35 ?_
          refine lv_topl (fun v18 ev18 => ?_)
          refine lv_land hx hb dX3_parts_36 ?_
          refine lv_topl (fun v19 ev19 => ?_)
          refine lv_lstore_n (lv' := [(2, .long v19), (4, .int x4), (1, .int x3), (0, .ref h0)]) hx hb dX3_parts_37 rfl hl (by decide) rfl (fun ls hl => ?_)
          obtain ⟨v20, ev20⟩ : ∃ y : Int32, y = x3 + 1 := ⟨_, rfl⟩
          refine lv_iinc (v := v20) (lv' := [(1, .int v20), (2, .long v19), (4, .int x4), (0, .ref h0)]) hx hb dX3_parts_38 hl (k := 2) rfl (by rw [ev20]; rfl) (by decide) rfl (fun ls hl => ?_)
          obtain ⟨v21, ev21⟩ : ∃ y : Int32, y = x4 + 1 := ⟨_, rfl⟩
          have tv21 : v21.toInt = x4.toInt + 1 := ti_add rfl ki_1 ev21 (by omega) (by omega)
          refine lv_iinc (v := v21) (lv' := [(4, .int v21), (1, .int v20), (2, .long v19), (0, .ref h0)]) hx hb dX3_parts_41 hl (k := 2) rfl (by rw [ev21]; rfl) (by decide) rfl (fun ls hl => ?_)
          refine lv_goto (tgt := 10) hx hb dX3_parts_44 (by decide) ?_
          exact ih8 v20 v21 v19 (by omega) (by omega) (by omega) _ _ hP hD hS ls (lv_sub hl [0, 2, 1, 3] rfl)
  exact lp1 65 0 0 o_cells (by rw [ki_0]; decide) (by rw [ki_0]; decide) (by rw [ki_0]; decide) _ _ hP hD hS ls (lv_sub hl [0, 1, 2, 3] rfl)
set_option maxHeartbeats 4000000 in
set_option maxRecDepth 100000 in
theorem f_X3_distance (l : Launch) (G : va_G) (cI cJ cZ cB cQ : ClassId) (sz : Nat) (h0 : Nat) (p0 : Int32) (p1 : Int32) (o_cells : Int64) (o_across : Int64) (o_down : Int64) : CI l yX3_distance (wl_ yX3_distance cX3_distance 6 (some .int)) ({ frames := 1, cells := 0, slots := 0, locals := 30 } : Room) G (TY cI cJ cZ cB cQ) [.ref h0, .int p0, .int p1] [(h0, oX3 z0 o_cells o_across o_down)] sz (fun (r : Int32) (u : Unit) => True) (fun _ : Unit => [(h0, oX3 z0 o_cells o_across o_down)]) 0 0 := by
  refine CI.go (cc := cX3_distance) (maxL := 6) (ret := (some .int)) (by decide) rfl (Nat.le_of_ble_eq_true rfl) ?_
  intro p e s m below meth c A ls Q hBd hret
  obtain ⟨hx, hb, hr, hml, hts, hown, hlk, hnm, hP, hK, hD, hA, hZ, hl⟩ := hBd
  have hown : s.vm.findClass RX3 = some m.cls := hown
  have hl : lv_has ls 6 [(0, .ref h0), (1, .int p0), (2, .int p1)] := hl
  have hS : va_S A s.heap s.heap [] := va_S.rf
  refine lv_aload_n hx hb dX3_distance_0 rfl (lv_at hl 0 rfl) ?_
  refine va_get (D := G) (ci := 3) (v := .long o_cells) (C := RX3) (T := TX3) (N := 3) hx hb hts iG_X3 hown hK hP 0 rfl rfl 0 (by decide) (hts _ w_306) (fun _ h9 => h9) rfl dX3_distance_1 ?_
  refine lv_iload_n hx hb dX3_distance_4 rfl (lv_at hl 1 rfl) ?_
  refine k_l (wc := []) (wr := [(h0, oX3 z0 o_cells o_across o_down)]) hP hD hS hA [] [0] rfl rfl rfl (by decide) (va_runSN (As := [.int p0]) (rest := [.long o_cells]) ⟨hx, hb, hml, hown, hts⟩ (f_X9_bit l G cI cJ cZ cB cQ _ p0) ⟨va_cnB (host := "WidowRoads") 1 hts (gW w_519) rfl rfl rfl (nz_nw hZ nw_751 rfl) (hts _ w_1) hd_X9_bit ⟨Nat.le_of_ble_eq_true rfl, Nat.le_of_ble_eq_true rfl⟩, (hts _ w_518), trivial⟩ (mS hK hZ hP hD [] rfl rfl [.int p0]) rfl rfl hl.1 rfl (lv_room (Nat.le_of_ble_eq_true rfl)) dX3_distance_5 ⟨Nat.le_of_ble_eq_true rfl, Nat.le_of_ble_eq_true rfl⟩) (fun r1 u2 H locs hw3 hP hD hS => ?_)
  try dsimp only at hw3
  have hP : va_P G vwCl [(h0, oX3 z0 o_cells o_across o_down)] H := hP
  have hD : va_D A [(h0, oX3 z0 o_cells o_across o_down)] := hD
  refine lv_land hx hb dX3_distance_8 ?_
  refine lv_topl (fun v4 ev4 => ?_)
  refine lv_lstore_n (lv' := [(3, .long v4), (0, .ref h0), (1, .int p0), (2, .int p1)]) hx hb dX3_distance_9 rfl hl (by decide) rfl (fun ls hl => ?_)
  refine lv_iconst (v := 0) hx hb dX3_distance_10 (by decide) ?_
  refine lv_istore (lv' := [(5, .int 0), (3, .long v4), (0, .ref h0), (1, .int p0), (2, .int p1)]) hx hb dX3_distance_11 hl (by decide) rfl (fun ls hl => ?_)
  have lp5 : ∀ (n6 : Nat) (x7 : Int32) (y8 : Int64), 0 ≤ x7.toInt → x7.toInt ≤ 64 → 64 - x7.toInt < (n6 : Int) → ∀ (H : Heap) (locs : List Loc), va_P G vwCl [(h0, oX3 z0 o_cells o_across o_down)] H → va_D A [(h0, oX3 z0 o_cells o_across o_down)] → va_S A s.heap H locs → ∀ (ls : Array Slot), lv_has ls 6 [(5, .int x7), (3, .long y8), (0, .ref h0), (1, .int p0), (2, .int p1)] → W p l e ({ frames := 1, cells := 0, slots := 0, locals := 30 } : Room) s m ([.ref h0, .int p0, .int p1] : List Value).toArray below meth c H locs 0 0 Q (F0 m 13 ls []) := by
    intro n6
    induction n6 with
    | zero =>
      intro x7 y8 k9 k10 mm12
      exact absurd mm12 (by have q9 := fb_rng x7; omega)
    | succ n6 ih11 =>
      intro x7 y8 k9 k10 mm12 H locs hP hD hS ls hl
      refine lv_iload hx hb dX3_distance_13 (lv_at hl 0 rfl) ?_
      refine lv_bipush (v := 64) hx hb dX3_distance_15 (by decide) ?_
      refine lv_icmp_ge (tgt := 43) hx hb dX3_distance_17 (by decide) (fun c13 => ?_) (fun c13 => ?_)
      · have c13 := i_le ki_64 rfl c13
        refine lv_iconst (v := (-1)) hx hb dX3_distance_43 (by decide) ?_
        exact hret _ _ _ _ (-1) () hP hD hS dX3_distance_44 trivial
      · have c13 := i_nle ki_64 rfl c13
        refine lv_lload_n hx hb dX3_distance_20 rfl (lv_at hl 1 rfl) ?_
        refine lv_iload_n hx hb dX3_distance_21 rfl (lv_at hl 4 rfl) ?_
        refine k_i (wc := []) (wr := [(h0, oX3 z0 o_cells o_across o_down)]) hP hD hS hA [] [0] rfl rfl rfl (by decide) (va_runSN (As := [.long y8, .int p1]) (rest := []) ⟨hx, hb, hml, hown, hts⟩ (f_X9_has l G cI cJ cZ cB cQ _ y8 p1) ⟨va_cnB (host := "WidowRoads") 2 hts (gW w_527) rfl rfl rfl (nz_nw hZ nw_752 rfl) (hts _ w_1) hd_X9_has ⟨Nat.le_of_ble_eq_true rfl, Nat.le_of_ble_eq_true rfl⟩, (hts _ w_526), trivial⟩ (mS hK hZ hP hD [] rfl rfl [.long y8, .int p1]) rfl rfl hl.1 rfl (lv_room (Nat.le_of_ble_eq_true rfl)) dX3_distance_22 ⟨Nat.le_of_ble_eq_true rfl, Nat.le_of_ble_eq_true rfl⟩) (fun r14 u15 H locs hw16 hP hD hS => ?_)
        try dsimp only at hw16
        have hP : va_P G vwCl [(h0, oX3 z0 o_cells o_across o_down)] H := hP
        have hD : va_D A [(h0, oX3 z0 o_cells o_across o_down)] := hD
        obtain ⟨w17, w18⟩ : 0 ≤ r14.toInt ∧ r14.toInt ≤ 1 := hw16
        refine lv_if_eq (tgt := 31) hx hb dX3_distance_25 (by decide) (fun c19 => ?_) (fun c19 => ?_)
        · have c19 := i_eq rfl ki_0 c19
          refine lv_aload_n hx hb dX3_distance_31 rfl (lv_at hl 2 rfl) ?_
          refine lv_lload_n hx hb dX3_distance_32 rfl (lv_at hl 1 rfl) ?_
          refine k_l (wc := [(h0, oX3 z0 o_cells o_across o_down)]) (wr := []) hP hD hS hA [0] [] rfl rfl rfl (by decide) (va_runV (As := [.long y8]) (rest := []) ⟨hx, hb, hml, hown, hts⟩ (f_X3_spread l G cI cJ cZ cB cQ _ h0 y8 o_cells o_across o_down) (cwV 1 hts (gV w_753 w_755 wp_43 w_8 w_756) rfl rfl rfl ⟨rfl, hd_X3_spread⟩ ⟨Nat.le_of_ble_eq_true rfl, Nat.le_of_ble_eq_true rfl⟩) (mV hK hZ hP hD [0] rfl rfl [.long y8] 0 3 rfl rfl) rfl rfl hl.1 rfl (lv_room (Nat.le_of_ble_eq_true rfl)) dX3_distance_33 ⟨Nat.le_of_ble_eq_true rfl, Nat.le_of_ble_eq_true rfl⟩) (fun r20 u21 H locs hw22 hP hD hS => ?_)
          try dsimp only at hw22
          have hP : va_P G vwCl [(h0, oX3 z0 o_cells o_across o_down)] H := hP
          have hD : va_D A [(h0, oX3 z0 o_cells o_across o_down)] := hD
          refine lv_lstore_n (lv' := [(3, .long r20), (5, .int x7), (0, .ref h0), (1, .int p0), (2, .int p1)]) hx hb dX3_distance_36 rfl hl (by decide) rfl (fun ls hl => ?_)
          obtain ⟨v23, ev23⟩ : ∃ y : Int32, y = x7 + 1 := ⟨_, rfl⟩
          have tv23 : v23.toInt = x7.toInt + 1 := ti_add rfl ki_1 ev23 (by omega) (by omega)
          refine lv_iinc (v := v23) (lv' := [(5, .int v23), (3, .long r20), (0, .ref h0), (1, .int p0), (2, .int p1)]) hx hb dX3_distance_37 hl (k := 1) rfl (by rw [ev23]; rfl) (by decide) rfl (fun ls hl => ?_)
          refine lv_goto (tgt := 13) hx hb dX3_distance_40 (by decide) ?_
          exact ih11 v23 r20 (by omega) (by omega) (by omega) _ _ hP hD hS ls (lv_sub hl [0, 1, 2, 3, 4] rfl)
        · have c19 := i_ne rfl ki_0 c19
          refine lv_iload hx hb dX3_distance_28 (lv_at hl 0 rfl) ?_
          exact hret _ _ _ _ x7 () hP hD hS dX3_distance_30 trivial
  exact lp5 65 0 v4 (by rw [ki_0]; decide) (by rw [ki_0]; decide) (by rw [ki_0]; decide) _ _ hP hD hS ls (lv_sub hl [0, 1, 2, 3, 4] rfl)
set_option maxHeartbeats 4000000 in
set_option maxRecDepth 100000 in
theorem f_X3_outermost (l : Launch) (G : va_G) (cI cJ cZ cB cQ : ClassId) (sz : Nat) (h0 : Nat) (p0 : Int32) (o_cells : Int64) (o_across : Int64) (o_down : Int64) : CI l yX3_outermost (wl_ yX3_outermost cX3_outermost 9 (some .int)) ({ frames := 2, cells := 0, slots := 0, locals := 42 } : Room) G (TY cI cJ cZ cB cQ) [.ref h0, .int p0] [(h0, oX3 z0 o_cells o_across o_down)] sz (fun (r : Int32) (u : Unit) => True) (fun _ : Unit => [(h0, oX3 z0 o_cells o_across o_down)]) 0 0 := by
  refine CI.go (cc := cX3_outermost) (maxL := 9) (ret := (some .int)) (by decide) rfl (Nat.le_of_ble_eq_true rfl) ?_
  intro p e s m below meth c A ls Q hBd hret
  obtain ⟨hx, hb, hr, hml, hts, hown, hlk, hnm, hP, hK, hD, hA, hZ, hl⟩ := hBd
  have hown : s.vm.findClass RX3 = some m.cls := hown
  have hl : lv_has ls 9 [(0, .ref h0), (1, .int p0)] := hl
  have hS : va_S A s.heap s.heap [] := va_S.rf
  refine lv_aload_n hx hb dX3_outermost_0 rfl (lv_at hl 0 rfl) ?_
  refine va_get (D := G) (ci := 3) (v := .long o_cells) (C := RX3) (T := TX3) (N := 3) hx hb hts iG_X3 hown hK hP 0 rfl rfl 0 (by decide) (hts _ w_306) (fun _ h9 => h9) rfl dX3_outermost_1 ?_
  refine lv_iload_n hx hb dX3_outermost_4 rfl (lv_at hl 1 rfl) ?_
  refine k_l (wc := []) (wr := [(h0, oX3 z0 o_cells o_across o_down)]) hP hD hS hA [] [0] rfl rfl rfl (by decide) (va_runSN (As := [.int p0]) (rest := [.long o_cells]) ⟨hx, hb, hml, hown, hts⟩ (f_X9_bit l G cI cJ cZ cB cQ _ p0) ⟨va_cnB (host := "WidowRoads") 1 hts (gW w_519) rfl rfl rfl (nz_nw hZ nw_751 rfl) (hts _ w_1) hd_X9_bit ⟨Nat.le_of_ble_eq_true rfl, Nat.le_of_ble_eq_true rfl⟩, (hts _ w_518), trivial⟩ (mS hK hZ hP hD [] rfl rfl [.int p0]) rfl rfl hl.1 rfl (lv_room (Nat.le_of_ble_eq_true rfl)) dX3_outermost_5 ⟨Nat.le_of_ble_eq_true rfl, Nat.le_of_ble_eq_true rfl⟩) (fun r1 u2 H locs hw3 hP hD hS => ?_)
  try dsimp only at hw3
  have hP : va_P G vwCl [(h0, oX3 z0 o_cells o_across o_down)] H := hP
  have hD : va_D A [(h0, oX3 z0 o_cells o_across o_down)] := hD
  refine lv_land hx hb dX3_outermost_8 ?_
  refine lv_topl (fun v4 ev4 => ?_)
  refine lv_lstore_n (lv' := [(2, .long v4), (0, .ref h0), (1, .int p0)]) hx hb dX3_outermost_9 rfl hl (by decide) rfl (fun ls hl => ?_)
  refine lv_lload_n hx hb dX3_outermost_10 rfl (lv_at hl 0 rfl) ?_
  refine lv_lstore (lv' := [(4, .long v4), (2, .long v4), (0, .ref h0), (1, .int p0)]) hx hb dX3_outermost_11 hl (by decide) rfl (fun ls hl => ?_)
  refine lv_aload_n hx hb dX3_outermost_13 rfl (lv_at hl 2 rfl) ?_
  refine lv_lload_n hx hb dX3_outermost_14 rfl (lv_at hl 1 rfl) ?_
  refine k_l (wc := [(h0, oX3 z0 o_cells o_across o_down)]) (wr := []) hP hD hS hA [0] [] rfl rfl rfl (by decide) (va_runV (As := [.long v4]) (rest := []) ⟨hx, hb, hml, hown, hts⟩ (f_X3_spread l G cI cJ cZ cB cQ _ h0 v4 o_cells o_across o_down) (cwV 1 hts (gV w_753 w_755 wp_43 w_8 w_756) rfl rfl rfl ⟨rfl, hd_X3_spread⟩ ⟨Nat.le_of_ble_eq_true rfl, Nat.le_of_ble_eq_true rfl⟩) (mV hK hZ hP hD [0] rfl rfl [.long v4] 0 3 rfl rfl) rfl rfl hl.1 rfl (lv_room (Nat.le_of_ble_eq_true rfl)) dX3_outermost_15 ⟨Nat.le_of_ble_eq_true rfl, Nat.le_of_ble_eq_true rfl⟩) (fun r5 u6 H locs hw7 hP hD hS => ?_)
  try dsimp only at hw7
  have hP : va_P G vwCl [(h0, oX3 z0 o_cells o_across o_down)] H := hP
  have hD : va_D A [(h0, oX3 z0 o_cells o_across o_down)] := hD
  refine lv_lstore (lv' := [(6, .long r5), (4, .long v4), (2, .long v4), (0, .ref h0), (1, .int p0)]) hx hb dX3_outermost_18 hl (by decide) rfl (fun ls hl => ?_)
  refine lv_iconst (v := 0) hx hb dX3_outermost_20 (by decide) ?_
  refine lv_istore (lv' := [(8, .int 0), (6, .long r5), (4, .long v4), (2, .long v4), (0, .ref h0), (1, .int p0)]) hx hb dX3_outermost_21 hl (by decide) rfl (fun ls hl => ?_)
  have lp8 : ∀ (n9 : Nat) (x10 : Int32) (y11 : Int64) (y12 : Int64) (y13 : Int64), 0 ≤ x10.toInt → x10.toInt ≤ 64 → 64 - x10.toInt < (n9 : Int) → ∀ (H : Heap) (locs : List Loc), va_P G vwCl [(h0, oX3 z0 o_cells o_across o_down)] H → va_D A [(h0, oX3 z0 o_cells o_across o_down)] → va_S A s.heap H locs → ∀ (ls : Array Slot), lv_has ls 9 [(8, .int x10), (6, .long y13), (4, .long y12), (2, .long y11), (0, .ref h0), (1, .int p0)] → W p l e ({ frames := 2, cells := 0, slots := 0, locals := 42 } : Room) s m ([.ref h0, .int p0] : List Value).toArray below meth c H locs 0 0 Q (F0 m 23 ls []) := by
    intro n9
    induction n9 with
    | zero =>
      intro x10 y11 y12 y13 k14 k15 mm17
      exact absurd mm17 (by have q9 := fb_rng x10; omega)
    | succ n9 ih16 =>
      intro x10 y11 y12 y13 k14 k15 mm17 H locs hP hD hS ls hl
      refine lv_iload hx hb dX3_outermost_23 (lv_at hl 0 rfl) ?_
      refine lv_bipush (v := 64) hx hb dX3_outermost_25 (by decide) ?_
      refine lv_icmp_ge (tgt := 63) hx hb dX3_outermost_27 (by decide) (fun c18 => ?_) (fun c18 => ?_)
      · have c18 := i_le ki_64 rfl c18
        refine lv_lload hx hb dX3_outermost_63 (lv_at hl 2 rfl) ?_
        refine lv_lconst (v := 0) hx hb dX3_outermost_65 (by decide) ?_
        refine W.lcmp hx hb dX3_outermost_66 ?_
        refine lv_if_ne (tgt := 74) hx hb dX3_outermost_67 (by decide) (fun c19 => ?_) (fun c19 => ?_)
        · have c19 := c_ne rfl kl_0 c19
          refine lv_lload hx hb dX3_outermost_74 (lv_at hl 2 rfl) ?_
          refine k_i (wc := []) (wr := [(h0, oX3 z0 o_cells o_across o_down)]) hP hD hS hA [] [0] rfl rfl rfl (by decide) (va_runSN (As := [.long y12]) (rest := []) ⟨hx, hb, hml, hown, hts⟩ (f_X9_leastOf l G cI cJ cZ cB cQ _ y12) ⟨va_cnB (host := "WidowRoads") 1 hts (gW w_638) rfl rfl rfl (nz_nw hZ nw_811 rfl) (hts _ w_1) hd_X9_leastOf ⟨Nat.le_of_ble_eq_true rfl, Nat.le_of_ble_eq_true rfl⟩, (hts _ w_637), trivial⟩ (mS hK hZ hP hD [] rfl rfl [.long y12]) rfl rfl hl.1 rfl (lv_room (Nat.le_of_ble_eq_true rfl)) dX3_outermost_76 ⟨Nat.le_of_ble_eq_true rfl, Nat.le_of_ble_eq_true rfl⟩) (fun r20 u21 H locs hw22 hP hD hS => ?_)
          try dsimp only at hw22
          have hP : va_P G vwCl [(h0, oX3 z0 o_cells o_across o_down)] H := hP
          have hD : va_D A [(h0, oX3 z0 o_cells o_across o_down)] := hD
          exact hret _ _ _ _ r20 () hP hD hS dX3_outermost_79 trivial
        · have c19 := c_nne rfl kl_0 c19
          refine lv_iconst (v := (-1)) hx hb dX3_outermost_70 (by decide) ?_
          refine lv_goto (tgt := 79) hx hb dX3_outermost_71 (by decide) ?_
          exact hret _ _ _ _ (-1) () hP hD hS dX3_outermost_79 trivial
      · have c18 := i_nle ki_64 rfl c18
        refine lv_lload hx hb dX3_outermost_30 (lv_at hl 1 rfl) ?_
        refine lv_lload_n hx hb dX3_outermost_32 rfl (lv_at hl 3 rfl) ?_
        refine W.lcmp hx hb dX3_outermost_33 ?_
        refine lv_if_eq (tgt := 63) hx hb dX3_outermost_34 (by decide) (fun c23 => ?_) (fun c23 => ?_)
        · have c23 := c_eq rfl rfl c23
          refine lv_lload hx hb dX3_outermost_63 (lv_at hl 2 rfl) ?_
          refine lv_lconst (v := 0) hx hb dX3_outermost_65 (by decide) ?_
          refine W.lcmp hx hb dX3_outermost_66 ?_
          refine lv_if_ne (tgt := 74) hx hb dX3_outermost_67 (by decide) (fun c24 => ?_) (fun c24 => ?_)
          · have c24 := c_ne rfl kl_0 c24
            refine lv_lload hx hb dX3_outermost_74 (lv_at hl 2 rfl) ?_
            refine k_i (wc := []) (wr := [(h0, oX3 z0 o_cells o_across o_down)]) hP hD hS hA [] [0] rfl rfl rfl (by decide) (va_runSN (As := [.long y12]) (rest := []) ⟨hx, hb, hml, hown, hts⟩ (f_X9_leastOf l G cI cJ cZ cB cQ _ y12) ⟨va_cnB (host := "WidowRoads") 1 hts (gW w_638) rfl rfl rfl (nz_nw hZ nw_811 rfl) (hts _ w_1) hd_X9_leastOf ⟨Nat.le_of_ble_eq_true rfl, Nat.le_of_ble_eq_true rfl⟩, (hts _ w_637), trivial⟩ (mS hK hZ hP hD [] rfl rfl [.long y12]) rfl rfl hl.1 rfl (lv_room (Nat.le_of_ble_eq_true rfl)) dX3_outermost_76 ⟨Nat.le_of_ble_eq_true rfl, Nat.le_of_ble_eq_true rfl⟩) (fun r25 u26 H locs hw27 hP hD hS => ?_)
            try dsimp only at hw27
            have hP : va_P G vwCl [(h0, oX3 z0 o_cells o_across o_down)] H := hP
            have hD : va_D A [(h0, oX3 z0 o_cells o_across o_down)] := hD
            exact hret _ _ _ _ r25 () hP hD hS dX3_outermost_79 trivial
          · have c24 := c_nne rfl kl_0 c24
            refine lv_iconst (v := (-1)) hx hb dX3_outermost_70 (by decide) ?_
            refine lv_goto (tgt := 79) hx hb dX3_outermost_71 (by decide) ?_
            exact hret _ _ _ _ (-1) () hP hD hS dX3_outermost_79 trivial
        · have c23 := c_neq rfl rfl c23
          refine lv_lload hx hb dX3_outermost_37 (lv_at hl 1 rfl) ?_
          refine lv_lload_n hx hb dX3_outermost_39 rfl (lv_at hl 3 rfl) ?_
          refine lv_ldc2 (v := (-1)) hx hb hown (hts _ w_816) dX3_outermost_40 ?_
          refine lv_lxor hx hb dX3_outermost_43 ?_
          refine lv_topl (fun v28 ev28 => ?_)
          refine lv_land hx hb dX3_outermost_44 ?_
          refine lv_topl (fun v29 ev29 => ?_)
          refine lv_lstore (lv' := [(4, .long v29), (8, .int x10), (6, .long y13), (2, .long y11), (0, .ref h0), (1, .int p0)]) hx hb dX3_outermost_45 hl (by decide) rfl (fun ls hl => ?_)
          refine lv_lload hx hb dX3_outermost_47 (lv_at hl 2 rfl) ?_
          refine lv_lstore_n (lv' := [(2, .long y13), (4, .long v29), (8, .int x10), (6, .long y13), (0, .ref h0), (1, .int p0)]) hx hb dX3_outermost_49 rfl hl (by decide) rfl (fun ls hl => ?_)
          refine lv_aload_n hx hb dX3_outermost_50 rfl (lv_at hl 4 rfl) ?_
          refine lv_lload_n hx hb dX3_outermost_51 rfl (lv_at hl 0 rfl) ?_
          refine k_l (wc := [(h0, oX3 z0 o_cells o_across o_down)]) (wr := []) hP hD hS hA [0] [] rfl rfl rfl (by decide) (va_runV (As := [.long y13]) (rest := []) ⟨hx, hb, hml, hown, hts⟩ (f_X3_spread l G cI cJ cZ cB cQ _ h0 y13 o_cells o_across o_down) (cwV 1 hts (gV w_753 w_755 wp_43 w_8 w_756) rfl rfl rfl ⟨rfl, hd_X3_spread⟩ ⟨Nat.le_of_ble_eq_true rfl, Nat.le_of_ble_eq_true rfl⟩) (mV hK hZ hP hD [0] rfl rfl [.long y13] 0 3 rfl rfl) rfl rfl hl.1 rfl (lv_room (Nat.le_of_ble_eq_true rfl)) dX3_outermost_52 ⟨Nat.le_of_ble_eq_true rfl, Nat.le_of_ble_eq_true rfl⟩) (fun r30 u31 H locs hw32 hP hD hS => ?_)
          try dsimp only at hw32
          have hP : va_P G vwCl [(h0, oX3 z0 o_cells o_across o_down)] H := hP
          have hD : va_D A [(h0, oX3 z0 o_cells o_across o_down)] := hD
          refine lv_lstore (lv' := [(6, .long r30), (2, .long y13), (4, .long v29), (8, .int x10), (0, .ref h0), (1, .int p0)]) hx hb dX3_outermost_55 hl (by decide) rfl (fun ls hl => ?_)
          obtain ⟨v33, ev33⟩ : ∃ y : Int32, y = x10 + 1 := ⟨_, rfl⟩
          have tv33 : v33.toInt = x10.toInt + 1 := ti_add rfl ki_1 ev33 (by omega) (by omega)
          refine lv_iinc (v := v33) (lv' := [(8, .int v33), (6, .long r30), (2, .long y13), (4, .long v29), (0, .ref h0), (1, .int p0)]) hx hb dX3_outermost_57 hl (k := 3) rfl (by rw [ev33]; rfl) (by decide) rfl (fun ls hl => ?_)
          refine lv_goto (tgt := 23) hx hb dX3_outermost_60 (by decide) ?_
          exact ih16 v33 y13 v29 r30 (by omega) (by omega) (by omega) _ _ hP hD hS ls (lv_sub hl [0, 1, 3, 2, 4, 5] rfl)
  exact lp8 65 0 v4 v4 r5 (by rw [ki_0]; decide) (by rw [ki_0]; decide) (by rw [ki_0]; decide) _ _ hP hD hS ls (lv_sub hl [0, 1, 2, 3, 4, 5] rfl)
set_option maxHeartbeats 4000000 in
set_option maxRecDepth 100000 in
theorem f_X3_sidesJoined (l : Launch) (G : va_G) (cI cJ cZ cB cQ : ClassId) (sz : Nat) (h0 : Nat) (p0 : Int32) (o_cells : Int64) (o_across : Int64) (o_down : Int64) : CI l yX3_sidesJoined (wl_ yX3_sidesJoined cX3_sidesJoined 5 (some .int)) ({ frames := 1, cells := 0, slots := 0, locals := 22 } : Room) G (TY cI cJ cZ cB cQ) [.ref h0, .int p0] [(h0, oX3 z0 o_cells o_across o_down)] sz (fun (r : Int32) (u : Unit) => True) (fun _ : Unit => [(h0, oX3 z0 o_cells o_across o_down)]) 0 0 := by
  refine CI.go (cc := cX3_sidesJoined) (maxL := 5) (ret := (some .int)) (by decide) rfl (Nat.le_of_ble_eq_true rfl) ?_
  intro p e s m below meth c A ls Q hBd hret
  obtain ⟨hx, hb, hr, hml, hts, hown, hlk, hnm, hP, hK, hD, hA, hZ, hl⟩ := hBd
  have hown : s.vm.findClass RX3 = some m.cls := hown
  have hl : lv_has ls 5 [(0, .ref h0), (1, .int p0)] := hl
  have hS : va_S A s.heap s.heap [] := va_S.rf
  refine lv_aload_n hx hb dX3_sidesJoined_0 rfl (lv_at hl 0 rfl) ?_
  refine va_get (D := G) (ci := 3) (v := .long o_across) (C := RX3) (T := TX3) (N := 3) hx hb hts iG_X3 hown hK hP 0 rfl rfl 1 (by decide) (hts _ w_307) (fun _ h9 => h9) rfl dX3_sidesJoined_1 ?_
  refine lv_iload_n hx hb dX3_sidesJoined_4 rfl (lv_at hl 1 rfl) ?_
  refine k_i (wc := []) (wr := [(h0, oX3 z0 o_cells o_across o_down)]) hP hD hS hA [] [0] rfl rfl rfl (by decide) (va_runSN (As := [.long o_across, .int p0]) (rest := []) ⟨hx, hb, hml, hown, hts⟩ (f_X9_has l G cI cJ cZ cB cQ _ o_across p0) ⟨va_cnB (host := "WidowRoads") 2 hts (gW w_527) rfl rfl rfl (nz_nw hZ nw_752 rfl) (hts _ w_1) hd_X9_has ⟨Nat.le_of_ble_eq_true rfl, Nat.le_of_ble_eq_true rfl⟩, (hts _ w_526), trivial⟩ (mS hK hZ hP hD [] rfl rfl [.long o_across, .int p0]) rfl rfl hl.1 rfl (lv_room (Nat.le_of_ble_eq_true rfl)) dX3_sidesJoined_5 ⟨Nat.le_of_ble_eq_true rfl, Nat.le_of_ble_eq_true rfl⟩) (fun r1 u2 H locs hw3 hP hD hS => ?_)
  try dsimp only at hw3
  have hP : va_P G vwCl [(h0, oX3 z0 o_cells o_across o_down)] H := hP
  have hD : va_D A [(h0, oX3 z0 o_cells o_across o_down)] := hD
  obtain ⟨w4, w5⟩ : 0 ≤ r1.toInt ∧ r1.toInt ≤ 1 := hw3
  refine k_i (wc := []) (wr := [(h0, oX3 z0 o_cells o_across o_down)]) hP hD hS hA [] [0] rfl rfl rfl (by decide) (va_runSN (As := [.int r1]) (rest := []) ⟨hx, hb, hml, hown, hts⟩ (f_X9_oneIf l G cI cJ cZ cB cQ _ r1) ⟨va_cnB (host := "WidowRoads") 1 hts (gW w_663) rfl rfl rfl (nz_nw hZ nw_786 rfl) (hts _ w_1) hd_X9_oneIf ⟨Nat.le_of_ble_eq_true rfl, Nat.le_of_ble_eq_true rfl⟩, (hts _ w_662), trivial⟩ (mS hK hZ hP hD [] rfl rfl [.int r1]) rfl rfl hl.1 rfl (lv_room (Nat.le_of_ble_eq_true rfl)) dX3_sidesJoined_8 ⟨Nat.le_of_ble_eq_true rfl, Nat.le_of_ble_eq_true rfl⟩) (fun r6 u7 H locs hw8 hP hD hS => ?_)
  try dsimp only at hw8
  have hP : va_P G vwCl [(h0, oX3 z0 o_cells o_across o_down)] H := hP
  have hD : va_D A [(h0, oX3 z0 o_cells o_across o_down)] := hD
  obtain ⟨w9, w10⟩ : 0 ≤ r6.toInt ∧ r6.toInt ≤ 1 := hw8
  refine lv_iconst (v := 1) hx hb dX3_sidesJoined_11 (by decide) ?_
  refine lv_ishl hx hb dX3_sidesJoined_12 ?_
  refine lv_topi (fun v11 ev11 => ?_)
  refine lv_aload_n hx hb dX3_sidesJoined_13 rfl (lv_at hl 0 rfl) ?_
  refine va_get (D := G) (ci := 3) (v := .long o_down) (C := RX3) (T := TX3) (N := 3) hx hb hts iG_X3 hown hK hP 0 rfl rfl 2 (by decide) (hts _ w_308) (fun _ h9 => h9) rfl dX3_sidesJoined_14 ?_
  refine lv_iload_n hx hb dX3_sidesJoined_17 rfl (lv_at hl 1 rfl) ?_
  refine k_i (wc := []) (wr := [(h0, oX3 z0 o_cells o_across o_down)]) hP hD hS hA [] [0] rfl rfl rfl (by decide) (va_runSN (As := [.long o_down, .int p0]) (rest := [.int v11]) ⟨hx, hb, hml, hown, hts⟩ (f_X9_has l G cI cJ cZ cB cQ _ o_down p0) ⟨va_cnB (host := "WidowRoads") 2 hts (gW w_527) rfl rfl rfl (nz_nw hZ nw_752 rfl) (hts _ w_1) hd_X9_has ⟨Nat.le_of_ble_eq_true rfl, Nat.le_of_ble_eq_true rfl⟩, (hts _ w_526), trivial⟩ (mS hK hZ hP hD [] rfl rfl [.long o_down, .int p0]) rfl rfl hl.1 rfl (lv_room (Nat.le_of_ble_eq_true rfl)) dX3_sidesJoined_18 ⟨Nat.le_of_ble_eq_true rfl, Nat.le_of_ble_eq_true rfl⟩) (fun r12 u13 H locs hw14 hP hD hS => ?_)
  try dsimp only at hw14
  have hP : va_P G vwCl [(h0, oX3 z0 o_cells o_across o_down)] H := hP
  have hD : va_D A [(h0, oX3 z0 o_cells o_across o_down)] := hD
  obtain ⟨w15, w16⟩ : 0 ≤ r12.toInt ∧ r12.toInt ≤ 1 := hw14
  refine k_i (wc := []) (wr := [(h0, oX3 z0 o_cells o_across o_down)]) hP hD hS hA [] [0] rfl rfl rfl (by decide) (va_runSN (As := [.int r12]) (rest := [.int v11]) ⟨hx, hb, hml, hown, hts⟩ (f_X9_oneIf l G cI cJ cZ cB cQ _ r12) ⟨va_cnB (host := "WidowRoads") 1 hts (gW w_663) rfl rfl rfl (nz_nw hZ nw_786 rfl) (hts _ w_1) hd_X9_oneIf ⟨Nat.le_of_ble_eq_true rfl, Nat.le_of_ble_eq_true rfl⟩, (hts _ w_662), trivial⟩ (mS hK hZ hP hD [] rfl rfl [.int r12]) rfl rfl hl.1 rfl (lv_room (Nat.le_of_ble_eq_true rfl)) dX3_sidesJoined_21 ⟨Nat.le_of_ble_eq_true rfl, Nat.le_of_ble_eq_true rfl⟩) (fun r17 u18 H locs hw19 hP hD hS => ?_)
  try dsimp only at hw19
  have hP : va_P G vwCl [(h0, oX3 z0 o_cells o_across o_down)] H := hP
  have hD : va_D A [(h0, oX3 z0 o_cells o_across o_down)] := hD
  obtain ⟨w20, w21⟩ : 0 ≤ r17.toInt ∧ r17.toInt ≤ 1 := hw19
  refine lv_iconst (v := 2) hx hb dX3_sidesJoined_24 (by decide) ?_
  refine lv_ishl hx hb dX3_sidesJoined_25 ?_
  refine lv_topi (fun v22 ev22 => ?_)
  refine lv_ior hx hb dX3_sidesJoined_26 ?_
  refine lv_topi (fun v23 ev23 => ?_)
  refine lv_istore_n (lv' := [(2, .int v23), (0, .ref h0), (1, .int p0)]) hx hb dX3_sidesJoined_27 rfl hl (by decide) rfl (fun ls hl => ?_)
  refine lv_iload_n hx hb dX3_sidesJoined_28 rfl (lv_at hl 2 rfl) ?_
  refine lv_iconst (v := 0) hx hb dX3_sidesJoined_29 (by decide) ?_
  refine k_i (wc := []) (wr := [(h0, oX3 z0 o_cells o_across o_down)]) hP hD hS hA [] [0] rfl rfl rfl (by decide) (va_runSN (As := [.int p0, .int 0]) (rest := []) ⟨hx, hb, hml, hown, hts⟩ (f_X9_beside l G cI cJ cZ cB cQ _ p0 0) ⟨va_cnB (host := "WidowRoads") 2 hts (gW w_621) rfl rfl rfl (nz_nw hZ nw_787 rfl) (hts _ w_1) hd_X9_beside ⟨Nat.le_of_ble_eq_true rfl, Nat.le_of_ble_eq_true rfl⟩, (hts _ w_620), trivial⟩ (mS hK hZ hP hD [] rfl rfl [.int p0, .int 0]) rfl rfl hl.1 rfl (lv_room (Nat.le_of_ble_eq_true rfl)) dX3_sidesJoined_30 ⟨Nat.le_of_ble_eq_true rfl, Nat.le_of_ble_eq_true rfl⟩) (fun r24 u25 H locs hw26 hP hD hS => ?_)
  try dsimp only at hw26
  have hP : va_P G vwCl [(h0, oX3 z0 o_cells o_across o_down)] H := hP
  have hD : va_D A [(h0, oX3 z0 o_cells o_across o_down)] := hD
  refine lv_istore_n (lv' := [(3, .int r24), (2, .int v23), (0, .ref h0), (1, .int p0)]) hx hb dX3_sidesJoined_33 rfl hl (by decide) rfl (fun ls hl => ?_)
  refine lv_iload_n hx hb dX3_sidesJoined_34 rfl (lv_at hl 3 rfl) ?_
  refine lv_iconst (v := 3) hx hb dX3_sidesJoined_35 (by decide) ?_
  refine k_i (wc := []) (wr := [(h0, oX3 z0 o_cells o_across o_down)]) hP hD hS hA [] [0] rfl rfl rfl (by decide) (va_runSN (As := [.int p0, .int 3]) (rest := []) ⟨hx, hb, hml, hown, hts⟩ (f_X9_beside l G cI cJ cZ cB cQ _ p0 3) ⟨va_cnB (host := "WidowRoads") 2 hts (gW w_621) rfl rfl rfl (nz_nw hZ nw_787 rfl) (hts _ w_1) hd_X9_beside ⟨Nat.le_of_ble_eq_true rfl, Nat.le_of_ble_eq_true rfl⟩, (hts _ w_620), trivial⟩ (mS hK hZ hP hD [] rfl rfl [.int p0, .int 3]) rfl rfl hl.1 rfl (lv_room (Nat.le_of_ble_eq_true rfl)) dX3_sidesJoined_36 ⟨Nat.le_of_ble_eq_true rfl, Nat.le_of_ble_eq_true rfl⟩) (fun r27 u28 H locs hw29 hP hD hS => ?_)
  try dsimp only at hw29
  have hP : va_P G vwCl [(h0, oX3 z0 o_cells o_across o_down)] H := hP
  have hD : va_D A [(h0, oX3 z0 o_cells o_across o_down)] := hD
  refine lv_istore (lv' := [(4, .int r27), (3, .int r24), (2, .int v23), (0, .ref h0), (1, .int p0)]) hx hb dX3_sidesJoined_39 hl (by decide) rfl (fun ls hl => ?_)
  refine lv_iload_n hx hb dX3_sidesJoined_41 rfl (lv_at hl 1 rfl) ?_
  refine lv_iconst (v := (-1)) hx hb dX3_sidesJoined_42 (by decide) ?_
  refine lv_icmp_eq (tgt := 60) hx hb dX3_sidesJoined_43 (by decide) (fun c30 => ?_) (fun c30 => ?_)
  · have c30 := i_eq rfl ki_m1 c30
    refine lv_iload hx hb dX3_sidesJoined_60 (lv_at hl 0 rfl) ?_
    refine lv_iconst (v := (-1)) hx hb dX3_sidesJoined_62 (by decide) ?_
    refine lv_icmp_eq (tgt := 83) hx hb dX3_sidesJoined_63 (by decide) (fun c31 => ?_) (fun c31 => ?_)
    · have c31 := i_eq rfl ki_m1 c31
      refine lv_iload_n hx hb dX3_sidesJoined_83 rfl (lv_at hl 2 rfl) ?_
      exact hret _ _ _ _ v23 () hP hD hS dX3_sidesJoined_84 trivial
    · have c31 := i_ne rfl ki_m1 c31
      refine lv_iload_n hx hb dX3_sidesJoined_66 rfl (lv_at hl 2 rfl) ?_
      refine lv_aload_n hx hb dX3_sidesJoined_67 rfl (lv_at hl 3 rfl) ?_
      refine va_get (D := G) (ci := 3) (v := .long o_across) (C := RX3) (T := TX3) (N := 3) hx hb hts iG_X3 hown hK hP 0 rfl rfl 1 (by decide) (hts _ w_307) (fun _ h9 => h9) rfl dX3_sidesJoined_68 ?_
      refine lv_iload hx hb dX3_sidesJoined_71 (lv_at hl 0 rfl) ?_
      refine k_i (wc := []) (wr := [(h0, oX3 z0 o_cells o_across o_down)]) hP hD hS hA [] [0] rfl rfl rfl (by decide) (va_runSN (As := [.long o_across, .int r27]) (rest := [.int v23]) ⟨hx, hb, hml, hown, hts⟩ (f_X9_has l G cI cJ cZ cB cQ _ o_across r27) ⟨va_cnB (host := "WidowRoads") 2 hts (gW w_527) rfl rfl rfl (nz_nw hZ nw_752 rfl) (hts _ w_1) hd_X9_has ⟨Nat.le_of_ble_eq_true rfl, Nat.le_of_ble_eq_true rfl⟩, (hts _ w_526), trivial⟩ (mS hK hZ hP hD [] rfl rfl [.long o_across, .int r27]) rfl rfl hl.1 rfl (lv_room (Nat.le_of_ble_eq_true rfl)) dX3_sidesJoined_73 ⟨Nat.le_of_ble_eq_true rfl, Nat.le_of_ble_eq_true rfl⟩) (fun r32 u33 H locs hw34 hP hD hS => ?_)
      try dsimp only at hw34
      have hP : va_P G vwCl [(h0, oX3 z0 o_cells o_across o_down)] H := hP
      have hD : va_D A [(h0, oX3 z0 o_cells o_across o_down)] := hD
      obtain ⟨w35, w36⟩ : 0 ≤ r32.toInt ∧ r32.toInt ≤ 1 := hw34
      refine k_i (wc := []) (wr := [(h0, oX3 z0 o_cells o_across o_down)]) hP hD hS hA [] [0] rfl rfl rfl (by decide) (va_runSN (As := [.int r32]) (rest := [.int v23]) ⟨hx, hb, hml, hown, hts⟩ (f_X9_oneIf l G cI cJ cZ cB cQ _ r32) ⟨va_cnB (host := "WidowRoads") 1 hts (gW w_663) rfl rfl rfl (nz_nw hZ nw_786 rfl) (hts _ w_1) hd_X9_oneIf ⟨Nat.le_of_ble_eq_true rfl, Nat.le_of_ble_eq_true rfl⟩, (hts _ w_662), trivial⟩ (mS hK hZ hP hD [] rfl rfl [.int r32]) rfl rfl hl.1 rfl (lv_room (Nat.le_of_ble_eq_true rfl)) dX3_sidesJoined_76 ⟨Nat.le_of_ble_eq_true rfl, Nat.le_of_ble_eq_true rfl⟩) (fun r37 u38 H locs hw39 hP hD hS => ?_)
      try dsimp only at hw39
      have hP : va_P G vwCl [(h0, oX3 z0 o_cells o_across o_down)] H := hP
      have hD : va_D A [(h0, oX3 z0 o_cells o_across o_down)] := hD
      obtain ⟨w40, w41⟩ : 0 ≤ r37.toInt ∧ r37.toInt ≤ 1 := hw39
      refine lv_iconst (v := 3) hx hb dX3_sidesJoined_79 (by decide) ?_
      refine lv_ishl hx hb dX3_sidesJoined_80 ?_
      refine lv_topi (fun v42 ev42 => ?_)
      refine lv_ior hx hb dX3_sidesJoined_81 ?_
      refine lv_topi (fun v43 ev43 => ?_)
      refine lv_istore_n (lv' := [(2, .int v43), (4, .int r27), (3, .int r24), (0, .ref h0), (1, .int p0)]) hx hb dX3_sidesJoined_82 rfl hl (by decide) rfl (fun ls hl => ?_)
      refine lv_iload_n hx hb dX3_sidesJoined_83 rfl (lv_at hl 0 rfl) ?_
      exact hret _ _ _ _ v43 () hP hD hS dX3_sidesJoined_84 trivial
  · have c30 := i_ne rfl ki_m1 c30
    refine lv_iload_n hx hb dX3_sidesJoined_46 rfl (lv_at hl 2 rfl) ?_
    refine lv_aload_n hx hb dX3_sidesJoined_47 rfl (lv_at hl 3 rfl) ?_
    refine va_get (D := G) (ci := 3) (v := .long o_down) (C := RX3) (T := TX3) (N := 3) hx hb hts iG_X3 hown hK hP 0 rfl rfl 2 (by decide) (hts _ w_308) (fun _ h9 => h9) rfl dX3_sidesJoined_48 ?_
    refine lv_iload_n hx hb dX3_sidesJoined_51 rfl (lv_at hl 1 rfl) ?_
    refine k_i (wc := []) (wr := [(h0, oX3 z0 o_cells o_across o_down)]) hP hD hS hA [] [0] rfl rfl rfl (by decide) (va_runSN (As := [.long o_down, .int r24]) (rest := [.int v23]) ⟨hx, hb, hml, hown, hts⟩ (f_X9_has l G cI cJ cZ cB cQ _ o_down r24) ⟨va_cnB (host := "WidowRoads") 2 hts (gW w_527) rfl rfl rfl (nz_nw hZ nw_752 rfl) (hts _ w_1) hd_X9_has ⟨Nat.le_of_ble_eq_true rfl, Nat.le_of_ble_eq_true rfl⟩, (hts _ w_526), trivial⟩ (mS hK hZ hP hD [] rfl rfl [.long o_down, .int r24]) rfl rfl hl.1 rfl (lv_room (Nat.le_of_ble_eq_true rfl)) dX3_sidesJoined_52 ⟨Nat.le_of_ble_eq_true rfl, Nat.le_of_ble_eq_true rfl⟩) (fun r44 u45 H locs hw46 hP hD hS => ?_)
    try dsimp only at hw46
    have hP : va_P G vwCl [(h0, oX3 z0 o_cells o_across o_down)] H := hP
    have hD : va_D A [(h0, oX3 z0 o_cells o_across o_down)] := hD
    obtain ⟨w47, w48⟩ : 0 ≤ r44.toInt ∧ r44.toInt ≤ 1 := hw46
    refine k_i (wc := []) (wr := [(h0, oX3 z0 o_cells o_across o_down)]) hP hD hS hA [] [0] rfl rfl rfl (by decide) (va_runSN (As := [.int r44]) (rest := [.int v23]) ⟨hx, hb, hml, hown, hts⟩ (f_X9_oneIf l G cI cJ cZ cB cQ _ r44) ⟨va_cnB (host := "WidowRoads") 1 hts (gW w_663) rfl rfl rfl (nz_nw hZ nw_786 rfl) (hts _ w_1) hd_X9_oneIf ⟨Nat.le_of_ble_eq_true rfl, Nat.le_of_ble_eq_true rfl⟩, (hts _ w_662), trivial⟩ (mS hK hZ hP hD [] rfl rfl [.int r44]) rfl rfl hl.1 rfl (lv_room (Nat.le_of_ble_eq_true rfl)) dX3_sidesJoined_55 ⟨Nat.le_of_ble_eq_true rfl, Nat.le_of_ble_eq_true rfl⟩) (fun r49 u50 H locs hw51 hP hD hS => ?_)
    try dsimp only at hw51
    have hP : va_P G vwCl [(h0, oX3 z0 o_cells o_across o_down)] H := hP
    have hD : va_D A [(h0, oX3 z0 o_cells o_across o_down)] := hD
    obtain ⟨w52, w53⟩ : 0 ≤ r49.toInt ∧ r49.toInt ≤ 1 := hw51
    refine lv_ior hx hb dX3_sidesJoined_58 ?_
    refine lv_topi (fun v54 ev54 => ?_)
    refine lv_istore_n (lv' := [(2, .int v54), (4, .int r27), (3, .int r24), (0, .ref h0), (1, .int p0)]) hx hb dX3_sidesJoined_59 rfl hl (by decide) rfl (fun ls hl => ?_)
    refine lv_iload hx hb dX3_sidesJoined_60 (lv_at hl 1 rfl) ?_
    refine lv_iconst (v := (-1)) hx hb dX3_sidesJoined_62 (by decide) ?_
    refine lv_icmp_eq (tgt := 83) hx hb dX3_sidesJoined_63 (by decide) (fun c55 => ?_) (fun c55 => ?_)
    · have c55 := i_eq rfl ki_m1 c55
      refine lv_iload_n hx hb dX3_sidesJoined_83 rfl (lv_at hl 0 rfl) ?_
      exact hret _ _ _ _ v54 () hP hD hS dX3_sidesJoined_84 trivial
    · have c55 := i_ne rfl ki_m1 c55
      refine lv_iload_n hx hb dX3_sidesJoined_66 rfl (lv_at hl 0 rfl) ?_
      refine lv_aload_n hx hb dX3_sidesJoined_67 rfl (lv_at hl 3 rfl) ?_
      refine va_get (D := G) (ci := 3) (v := .long o_across) (C := RX3) (T := TX3) (N := 3) hx hb hts iG_X3 hown hK hP 0 rfl rfl 1 (by decide) (hts _ w_307) (fun _ h9 => h9) rfl dX3_sidesJoined_68 ?_
      refine lv_iload hx hb dX3_sidesJoined_71 (lv_at hl 1 rfl) ?_
      refine k_i (wc := []) (wr := [(h0, oX3 z0 o_cells o_across o_down)]) hP hD hS hA [] [0] rfl rfl rfl (by decide) (va_runSN (As := [.long o_across, .int r27]) (rest := [.int v54]) ⟨hx, hb, hml, hown, hts⟩ (f_X9_has l G cI cJ cZ cB cQ _ o_across r27) ⟨va_cnB (host := "WidowRoads") 2 hts (gW w_527) rfl rfl rfl (nz_nw hZ nw_752 rfl) (hts _ w_1) hd_X9_has ⟨Nat.le_of_ble_eq_true rfl, Nat.le_of_ble_eq_true rfl⟩, (hts _ w_526), trivial⟩ (mS hK hZ hP hD [] rfl rfl [.long o_across, .int r27]) rfl rfl hl.1 rfl (lv_room (Nat.le_of_ble_eq_true rfl)) dX3_sidesJoined_73 ⟨Nat.le_of_ble_eq_true rfl, Nat.le_of_ble_eq_true rfl⟩) (fun r56 u57 H locs hw58 hP hD hS => ?_)
      try dsimp only at hw58
      have hP : va_P G vwCl [(h0, oX3 z0 o_cells o_across o_down)] H := hP
      have hD : va_D A [(h0, oX3 z0 o_cells o_across o_down)] := hD
      obtain ⟨w59, w60⟩ : 0 ≤ r56.toInt ∧ r56.toInt ≤ 1 := hw58
      refine k_i (wc := []) (wr := [(h0, oX3 z0 o_cells o_across o_down)]) hP hD hS hA [] [0] rfl rfl rfl (by decide) (va_runSN (As := [.int r56]) (rest := [.int v54]) ⟨hx, hb, hml, hown, hts⟩ (f_X9_oneIf l G cI cJ cZ cB cQ _ r56) ⟨va_cnB (host := "WidowRoads") 1 hts (gW w_663) rfl rfl rfl (nz_nw hZ nw_786 rfl) (hts _ w_1) hd_X9_oneIf ⟨Nat.le_of_ble_eq_true rfl, Nat.le_of_ble_eq_true rfl⟩, (hts _ w_662), trivial⟩ (mS hK hZ hP hD [] rfl rfl [.int r56]) rfl rfl hl.1 rfl (lv_room (Nat.le_of_ble_eq_true rfl)) dX3_sidesJoined_76 ⟨Nat.le_of_ble_eq_true rfl, Nat.le_of_ble_eq_true rfl⟩) (fun r61 u62 H locs hw63 hP hD hS => ?_)
      try dsimp only at hw63
      have hP : va_P G vwCl [(h0, oX3 z0 o_cells o_across o_down)] H := hP
      have hD : va_D A [(h0, oX3 z0 o_cells o_across o_down)] := hD
      obtain ⟨w64, w65⟩ : 0 ≤ r61.toInt ∧ r61.toInt ≤ 1 := hw63
      refine lv_iconst (v := 3) hx hb dX3_sidesJoined_79 (by decide) ?_
      refine lv_ishl hx hb dX3_sidesJoined_80 ?_
      refine lv_topi (fun v66 ev66 => ?_)
      refine lv_ior hx hb dX3_sidesJoined_81 ?_
      refine lv_topi (fun v67 ev67 => ?_)
      refine lv_istore_n (lv' := [(2, .int v67), (4, .int r27), (3, .int r24), (0, .ref h0), (1, .int p0)]) hx hb dX3_sidesJoined_82 rfl hl (by decide) rfl (fun ls hl => ?_)
      refine lv_iload_n hx hb dX3_sidesJoined_83 rfl (lv_at hl 0 rfl) ?_
      exact hret _ _ _ _ v67 () hP hD hS dX3_sidesJoined_84 trivial
set_option maxHeartbeats 4000000 in
set_option maxRecDepth 100000 in
theorem f_X3_cellsJoinedBy (l : Launch) (G : va_G) (cI cJ cZ cB cQ : ClassId) (sz : Nat) (h0 : Nat) (p0 : Int32) (o_cells : Int64) (o_across : Int64) (o_down : Int64) : CI l yX3_cellsJoinedBy (wl_ yX3_cellsJoinedBy cX3_cellsJoinedBy 4 (some .int)) ({ frames := 2, cells := 0, slots := 0, locals := 46 } : Room) G (TY cI cJ cZ cB cQ) [.ref h0, .int p0] [(h0, oX3 z0 o_cells o_across o_down)] sz (fun (r : Int32) (u : Unit) => True) (fun _ : Unit => [(h0, oX3 z0 o_cells o_across o_down)]) 0 0 := by
  refine CI.go (cc := cX3_cellsJoinedBy) (maxL := 4) (ret := (some .int)) (by decide) rfl (Nat.le_of_ble_eq_true rfl) ?_
  intro p e s m below meth c A ls Q hBd hret
  obtain ⟨hx, hb, hr, hml, hts, hown, hlk, hnm, hP, hK, hD, hA, hZ, hl⟩ := hBd
  have hown : s.vm.findClass RX3 = some m.cls := hown
  have hl : lv_has ls 4 [(0, .ref h0), (1, .int p0)] := hl
  have hS : va_S A s.heap s.heap [] := va_S.rf
  refine lv_iconst (v := 0) hx hb dX3_cellsJoinedBy_0 (by decide) ?_
  refine lv_istore_n (lv' := [(2, .int 0), (0, .ref h0), (1, .int p0)]) hx hb dX3_cellsJoinedBy_1 rfl hl (by decide) rfl (fun ls hl => ?_)
  refine lv_iconst (v := 0) hx hb dX3_cellsJoinedBy_2 (by decide) ?_
  refine lv_istore_n (lv' := [(3, .int 0), (2, .int 0), (0, .ref h0), (1, .int p0)]) hx hb dX3_cellsJoinedBy_3 rfl hl (by decide) rfl (fun ls hl => ?_)
  have lp1 : ∀ (n2 : Nat) (x3 : Int32) (x4 : Int32), 0 ≤ x4.toInt → x4.toInt ≤ 64 → 64 - x4.toInt < (n2 : Int) → ∀ (H : Heap) (locs : List Loc), va_P G vwCl [(h0, oX3 z0 o_cells o_across o_down)] H → va_D A [(h0, oX3 z0 o_cells o_across o_down)] → va_S A s.heap H locs → ∀ (ls : Array Slot), lv_has ls 4 [(3, .int x4), (2, .int x3), (0, .ref h0), (1, .int p0)] → W p l e ({ frames := 2, cells := 0, slots := 0, locals := 46 } : Room) s m ([.ref h0, .int p0] : List Value).toArray below meth c H locs 0 0 Q (F0 m 4 ls []) := by
    intro n2
    induction n2 with
    | zero =>
      intro x3 x4 k5 k6 mm8
      exact absurd mm8 (by have q9 := fb_rng x4; omega)
    | succ n2 ih7 =>
      intro x3 x4 k5 k6 mm8 H locs hP hD hS ls hl
      refine lv_iload_n hx hb dX3_cellsJoinedBy_4 rfl (lv_at hl 0 rfl) ?_
      refine lv_bipush (v := 64) hx hb dX3_cellsJoinedBy_5 (by decide) ?_
      refine lv_icmp_ge (tgt := 50) hx hb dX3_cellsJoinedBy_7 (by decide) (fun c9 => ?_) (fun c9 => ?_)
      · have c9 := i_le ki_64 rfl c9
        refine lv_iload_n hx hb dX3_cellsJoinedBy_50 rfl (lv_at hl 1 rfl) ?_
        exact hret _ _ _ _ x3 () hP hD hS dX3_cellsJoinedBy_51 trivial
      · have c9 := i_nle ki_64 rfl c9
        refine lv_iload_n hx hb dX3_cellsJoinedBy_10 rfl (lv_at hl 1 rfl) ?_
        refine lv_aload_n hx hb dX3_cellsJoinedBy_11 rfl (lv_at hl 2 rfl) ?_
        refine va_get (D := G) (ci := 3) (v := .long o_cells) (C := RX3) (T := TX3) (N := 3) hx hb hts iG_X3 hown hK hP 0 rfl rfl 0 (by decide) (hts _ w_306) (fun _ h9 => h9) rfl dX3_cellsJoinedBy_12 ?_
        refine lv_iload_n hx hb dX3_cellsJoinedBy_15 rfl (lv_at hl 0 rfl) ?_
        refine k_i (wc := []) (wr := [(h0, oX3 z0 o_cells o_across o_down)]) hP hD hS hA [] [0] rfl rfl rfl (by decide) (va_runSN (As := [.long o_cells, .int x4]) (rest := [.int x3]) ⟨hx, hb, hml, hown, hts⟩ (f_X9_has l G cI cJ cZ cB cQ _ o_cells x4) ⟨va_cnB (host := "WidowRoads") 2 hts (gW w_527) rfl rfl rfl (nz_nw hZ nw_752 rfl) (hts _ w_1) hd_X9_has ⟨Nat.le_of_ble_eq_true rfl, Nat.le_of_ble_eq_true rfl⟩, (hts _ w_526), trivial⟩ (mS hK hZ hP hD [] rfl rfl [.long o_cells, .int x4]) rfl rfl hl.1 rfl (lv_room (Nat.le_of_ble_eq_true rfl)) dX3_cellsJoinedBy_16 ⟨Nat.le_of_ble_eq_true rfl, Nat.le_of_ble_eq_true rfl⟩) (fun r10 u11 H locs hw12 hP hD hS => ?_)
        try dsimp only at hw12
        have hP : va_P G vwCl [(h0, oX3 z0 o_cells o_across o_down)] H := hP
        have hD : va_D A [(h0, oX3 z0 o_cells o_across o_down)] := hD
        obtain ⟨w13, w14⟩ : 0 ≤ r10.toInt ∧ r10.toInt ≤ 1 := hw12
        refine lv_if_eq (tgt := 38) hx hb dX3_cellsJoinedBy_19 (by decide) (fun c15 => ?_) (fun c15 => ?_)
        · have c15 := i_eq rfl ki_0 c15
          refine lv_iconst (v := 0) hx hb dX3_cellsJoinedBy_38 (by decide) ?_
          refine k_i (wc := []) (wr := [(h0, oX3 z0 o_cells o_across o_down)]) hP hD hS hA [] [0] rfl rfl rfl (by decide) (va_runSN (As := [.int 0]) (rest := [.int x3]) ⟨hx, hb, hml, hown, hts⟩ (f_X9_oneIf l G cI cJ cZ cB cQ _ 0) ⟨va_cnB (host := "WidowRoads") 1 hts (gW w_663) rfl rfl rfl (nz_nw hZ nw_786 rfl) (hts _ w_1) hd_X9_oneIf ⟨Nat.le_of_ble_eq_true rfl, Nat.le_of_ble_eq_true rfl⟩, (hts _ w_662), trivial⟩ (mS hK hZ hP hD [] rfl rfl [.int 0]) rfl rfl hl.1 rfl (lv_room (Nat.le_of_ble_eq_true rfl)) dX3_cellsJoinedBy_39 ⟨Nat.le_of_ble_eq_true rfl, Nat.le_of_ble_eq_true rfl⟩) (fun r16 u17 H locs hw18 hP hD hS => ?_)
          try dsimp only at hw18
          have hP : va_P G vwCl [(h0, oX3 z0 o_cells o_across o_down)] H := hP
          have hD : va_D A [(h0, oX3 z0 o_cells o_across o_down)] := hD
          obtain ⟨w19, w20⟩ : 0 ≤ r16.toInt ∧ r16.toInt ≤ 1 := hw18
          refine lv_iadd hx hb dX3_cellsJoinedBy_42 ?_
          refine lv_topi (fun v21 ev21 => ?_)
          refine lv_istore_n (lv' := [(2, .int v21), (3, .int x4), (0, .ref h0), (1, .int p0)]) hx hb dX3_cellsJoinedBy_43 rfl hl (by decide) rfl (fun ls hl => ?_)
          obtain ⟨v22, ev22⟩ : ∃ y : Int32, y = x4 + 1 := ⟨_, rfl⟩
          have tv22 : v22.toInt = x4.toInt + 1 := ti_add rfl ki_1 ev22 (by omega) (by omega)
          refine lv_iinc (v := v22) (lv' := [(3, .int v22), (2, .int v21), (0, .ref h0), (1, .int p0)]) hx hb dX3_cellsJoinedBy_44 hl (k := 1) rfl (by rw [ev22]; rfl) (by decide) rfl (fun ls hl => ?_)
          refine lv_goto (tgt := 4) hx hb dX3_cellsJoinedBy_47 (by decide) ?_
          exact ih7 v21 v22 (by omega) (by omega) (by omega) _ _ hP hD hS ls (lv_sub hl [0, 1, 2, 3] rfl)
        · have c15 := i_ne rfl ki_0 c15
          refine lv_aload_n hx hb dX3_cellsJoinedBy_22 rfl (lv_at hl 2 rfl) ?_
          refine lv_iload_n hx hb dX3_cellsJoinedBy_23 rfl (lv_at hl 0 rfl) ?_
          refine k_i (wc := [(h0, oX3 z0 o_cells o_across o_down)]) (wr := []) hP hD hS hA [0] [] rfl rfl rfl (by decide) (va_runV (As := [.int x4]) (rest := [.int x3]) ⟨hx, hb, hml, hown, hts⟩ (f_X3_sidesJoined l G cI cJ cZ cB cQ _ h0 x4 o_cells o_across o_down) (cwV 1 hts (gV w_796 w_784 wp_46 w_8 w_785) rfl rfl rfl ⟨rfl, hd_X3_sidesJoined⟩ ⟨Nat.le_of_ble_eq_true rfl, Nat.le_of_ble_eq_true rfl⟩) (mV hK hZ hP hD [0] rfl rfl [.int x4] 0 3 rfl rfl) rfl rfl hl.1 rfl (lv_room (Nat.le_of_ble_eq_true rfl)) dX3_cellsJoinedBy_24 ⟨Nat.le_of_ble_eq_true rfl, Nat.le_of_ble_eq_true rfl⟩) (fun r23 u24 H locs hw25 hP hD hS => ?_)
          try dsimp only at hw25
          have hP : va_P G vwCl [(h0, oX3 z0 o_cells o_across o_down)] H := hP
          have hD : va_D A [(h0, oX3 z0 o_cells o_across o_down)] := hD
          refine k_i (wc := []) (wr := [(h0, oX3 z0 o_cells o_across o_down)]) hP hD hS hA [] [0] rfl rfl rfl (by decide) (va_runS (As := [.int r23]) (rest := [.int x3]) ⟨hx, hb, hml, hown, hts⟩ (f_J6_bitCount_0f7a4 l G cI cJ cZ cB cQ _ r23) (va_cwS 1 hts (gS w_797 w_798 w_19 w_799) rfl rfl rfl hd_J6_bitCount_0f7a4 ⟨Nat.le_of_ble_eq_true rfl, Nat.le_of_ble_eq_true rfl⟩) (mS hK hZ hP hD [] rfl rfl [.int r23]) rfl rfl hl.1 rfl (lv_room (Nat.le_of_ble_eq_true rfl)) dX3_cellsJoinedBy_27 ⟨Nat.le_of_ble_eq_true rfl, Nat.le_of_ble_eq_true rfl⟩) (fun r26 u27 H locs hw28 hP hD hS => ?_)
          try dsimp only at hw28
          have hP : va_P G vwCl [(h0, oX3 z0 o_cells o_across o_down)] H := hP
          have hD : va_D A [(h0, oX3 z0 o_cells o_across o_down)] := hD
          obtain ⟨w29, w30⟩ : 0 ≤ r26.toInt ∧ r26.toInt ≤ 63 := hw28
          refine lv_iload_n hx hb dX3_cellsJoinedBy_30 rfl (lv_at hl 3 rfl) ?_
          refine lv_icmp_ne (tgt := 38) hx hb dX3_cellsJoinedBy_31 (by decide) (fun c31 => ?_) (fun c31 => ?_)
          · have c31 := i_ne rfl rfl c31
            refine lv_iconst (v := 0) hx hb dX3_cellsJoinedBy_38 (by decide) ?_
            refine k_i (wc := []) (wr := [(h0, oX3 z0 o_cells o_across o_down)]) hP hD hS hA [] [0] rfl rfl rfl (by decide) (va_runSN (As := [.int 0]) (rest := [.int x3]) ⟨hx, hb, hml, hown, hts⟩ (f_X9_oneIf l G cI cJ cZ cB cQ _ 0) ⟨va_cnB (host := "WidowRoads") 1 hts (gW w_663) rfl rfl rfl (nz_nw hZ nw_786 rfl) (hts _ w_1) hd_X9_oneIf ⟨Nat.le_of_ble_eq_true rfl, Nat.le_of_ble_eq_true rfl⟩, (hts _ w_662), trivial⟩ (mS hK hZ hP hD [] rfl rfl [.int 0]) rfl rfl hl.1 rfl (lv_room (Nat.le_of_ble_eq_true rfl)) dX3_cellsJoinedBy_39 ⟨Nat.le_of_ble_eq_true rfl, Nat.le_of_ble_eq_true rfl⟩) (fun r32 u33 H locs hw34 hP hD hS => ?_)
            try dsimp only at hw34
            have hP : va_P G vwCl [(h0, oX3 z0 o_cells o_across o_down)] H := hP
            have hD : va_D A [(h0, oX3 z0 o_cells o_across o_down)] := hD
            obtain ⟨w35, w36⟩ : 0 ≤ r32.toInt ∧ r32.toInt ≤ 1 := hw34
            refine lv_iadd hx hb dX3_cellsJoinedBy_42 ?_
            refine lv_topi (fun v37 ev37 => ?_)
            refine lv_istore_n (lv' := [(2, .int v37), (3, .int x4), (0, .ref h0), (1, .int p0)]) hx hb dX3_cellsJoinedBy_43 rfl hl (by decide) rfl (fun ls hl => ?_)
            obtain ⟨v38, ev38⟩ : ∃ y : Int32, y = x4 + 1 := ⟨_, rfl⟩
            have tv38 : v38.toInt = x4.toInt + 1 := ti_add rfl ki_1 ev38 (by omega) (by omega)
            refine lv_iinc (v := v38) (lv' := [(3, .int v38), (2, .int v37), (0, .ref h0), (1, .int p0)]) hx hb dX3_cellsJoinedBy_44 hl (k := 1) rfl (by rw [ev38]; rfl) (by decide) rfl (fun ls hl => ?_)
            refine lv_goto (tgt := 4) hx hb dX3_cellsJoinedBy_47 (by decide) ?_
            exact ih7 v37 v38 (by omega) (by omega) (by omega) _ _ hP hD hS ls (lv_sub hl [0, 1, 2, 3] rfl)
          · have c31 := i_eq rfl rfl c31
            refine lv_iconst (v := 1) hx hb dX3_cellsJoinedBy_34 (by decide) ?_
            refine lv_goto (tgt := 39) hx hb dX3_cellsJoinedBy_35 (by decide) ?_
            refine k_i (wc := []) (wr := [(h0, oX3 z0 o_cells o_across o_down)]) hP hD hS hA [] [0] rfl rfl rfl (by decide) (va_runSN (As := [.int 1]) (rest := [.int x3]) ⟨hx, hb, hml, hown, hts⟩ (f_X9_oneIf l G cI cJ cZ cB cQ _ 1) ⟨va_cnB (host := "WidowRoads") 1 hts (gW w_663) rfl rfl rfl (nz_nw hZ nw_786 rfl) (hts _ w_1) hd_X9_oneIf ⟨Nat.le_of_ble_eq_true rfl, Nat.le_of_ble_eq_true rfl⟩, (hts _ w_662), trivial⟩ (mS hK hZ hP hD [] rfl rfl [.int 1]) rfl rfl hl.1 rfl (lv_room (Nat.le_of_ble_eq_true rfl)) dX3_cellsJoinedBy_39 ⟨Nat.le_of_ble_eq_true rfl, Nat.le_of_ble_eq_true rfl⟩) (fun r39 u40 H locs hw41 hP hD hS => ?_)
            try dsimp only at hw41
            have hP : va_P G vwCl [(h0, oX3 z0 o_cells o_across o_down)] H := hP
            have hD : va_D A [(h0, oX3 z0 o_cells o_across o_down)] := hD
            obtain ⟨w42, w43⟩ : 0 ≤ r39.toInt ∧ r39.toInt ≤ 1 := hw41
            refine lv_iadd hx hb dX3_cellsJoinedBy_42 ?_
            refine lv_topi (fun v44 ev44 => ?_)
            refine lv_istore_n (lv' := [(2, .int v44), (3, .int x4), (0, .ref h0), (1, .int p0)]) hx hb dX3_cellsJoinedBy_43 rfl hl (by decide) rfl (fun ls hl => ?_)
            obtain ⟨v45, ev45⟩ : ∃ y : Int32, y = x4 + 1 := ⟨_, rfl⟩
            have tv45 : v45.toInt = x4.toInt + 1 := ti_add rfl ki_1 ev45 (by omega) (by omega)
            refine lv_iinc (v := v45) (lv' := [(3, .int v45), (2, .int v44), (0, .ref h0), (1, .int p0)]) hx hb dX3_cellsJoinedBy_44 hl (k := 1) rfl (by rw [ev45]; rfl) (by decide) rfl (fun ls hl => ?_)
            refine lv_goto (tgt := 4) hx hb dX3_cellsJoinedBy_47 (by decide) ?_
            exact ih7 v44 v45 (by omega) (by omega) (by omega) _ _ hP hD hS ls (lv_sub hl [0, 1, 2, 3] rfl)
  exact lp1 65 0 0 (by rw [ki_0]; decide) (by rw [ki_0]; decide) (by rw [ki_0]; decide) _ _ hP hD hS ls (lv_sub hl [0, 1, 2, 3] rfl)
set_option maxHeartbeats 4000000 in
set_option maxRecDepth 100000 in
theorem f_X3_cuts (l : Launch) (G : va_G) (cI cJ cZ cB cQ : ClassId) (sz : Nat) (h0 : Nat) (o_cells : Int64) (o_across : Int64) (o_down : Int64) : CI l yX3_cuts (wl_ yX3_cuts cX3_cuts 5 (some .int)) ({ frames := 2, cells := 0, slots := 0, locals := 56 } : Room) G (TY cI cJ cZ cB cQ) [.ref h0] [(h0, oX3 z0 o_cells o_across o_down)] sz (fun (r : Int32) (u : Int64 × Int64) => True) (fun u : Int64 × Int64 => [(h0, oX3 z0 o_cells u.1 u.2)]) 0 0 := by
  refine CI.go (cc := cX3_cuts) (maxL := 5) (ret := (some .int)) (by decide) rfl (Nat.le_of_ble_eq_true rfl) ?_
  intro p e s m below meth c A ls Q hBd hret
  obtain ⟨hx, hb, hr, hml, hts, hown, hlk, hnm, hP, hK, hD, hA, hZ, hl⟩ := hBd
  have hown : s.vm.findClass RX3 = some m.cls := hown
  have hl : lv_has ls 5 [(0, .ref h0)] := hl
  have hS : va_S A s.heap s.heap [] := va_S.rf
  refine lv_iconst (v := 0) hx hb dX3_cuts_0 (by decide) ?_
  refine lv_istore_n (lv' := [(1, .int 0), (0, .ref h0)]) hx hb dX3_cuts_1 rfl hl (by decide) rfl (fun ls hl => ?_)
  refine lv_iconst (v := 0) hx hb dX3_cuts_2 (by decide) ?_
  refine lv_istore_n (lv' := [(2, .int 0), (1, .int 0), (0, .ref h0)]) hx hb dX3_cuts_3 rfl hl (by decide) rfl (fun ls hl => ?_)
  have lp1 : ∀ (n2 : Nat) (x3 : Int32) (x4 : Int32) (y5 : Int64) (y6 : Int64), 0 ≤ x4.toInt → x4.toInt ≤ 64 → 64 - x4.toInt < (n2 : Int) → ∀ (H : Heap) (locs : List Loc), va_P G vwCl [(h0, oX3 z0 o_cells y5 y6)] H → va_D A [(h0, oX3 z0 o_cells y5 y6)] → va_S A s.heap H locs → ∀ (ls : Array Slot), lv_has ls 5 [(2, .int x4), (1, .int x3), (0, .ref h0)] → W p l e ({ frames := 2, cells := 0, slots := 0, locals := 56 } : Room) s m ([.ref h0] : List Value).toArray below meth c H locs 0 0 Q (F0 m 4 ls []) := by
    intro n2
    induction n2 with
    | zero =>
      intro x3 x4 y5 y6 k7 k8 mm10
      exact absurd mm10 (by have q9 := fb_rng x4; omega)
    | succ n2 ih9 =>
      intro x3 x4 y5 y6 k7 k8 mm10 H locs hP hD hS ls hl
      refine lv_iload_n hx hb dX3_cuts_4 rfl (lv_at hl 0 rfl) ?_
      refine lv_bipush (v := 64) hx hb dX3_cuts_5 (by decide) ?_
      refine lv_icmp_ge (tgt := 142) hx hb dX3_cuts_7 (by decide) (fun c11 => ?_) (fun c11 => ?_)
      · have c11 := i_le ki_64 rfl c11
        refine lv_iload_n hx hb dX3_cuts_142 rfl (lv_at hl 1 rfl) ?_
        exact hret _ _ _ _ x3 (y5, y6) hP hD hS dX3_cuts_143 trivial
      · have c11 := i_nle ki_64 rfl c11
        refine lv_iload_n hx hb dX3_cuts_10 rfl (lv_at hl 0 rfl) ?_
        refine k_l (wc := []) (wr := [(h0, oX3 z0 o_cells y5 y6)]) hP hD hS hA [] [0] rfl rfl rfl (by decide) (va_runSN (As := [.int x4]) (rest := []) ⟨hx, hb, hml, hown, hts⟩ (f_X9_bit l G cI cJ cZ cB cQ _ x4) ⟨va_cnB (host := "WidowRoads") 1 hts (gW w_519) rfl rfl rfl (nz_nw hZ nw_751 rfl) (hts _ w_1) hd_X9_bit ⟨Nat.le_of_ble_eq_true rfl, Nat.le_of_ble_eq_true rfl⟩, (hts _ w_518), trivial⟩ (mS hK hZ hP hD [] rfl rfl [.int x4]) rfl rfl hl.1 rfl (lv_room (Nat.le_of_ble_eq_true rfl)) dX3_cuts_11 ⟨Nat.le_of_ble_eq_true rfl, Nat.le_of_ble_eq_true rfl⟩) (fun r12 u13 H locs hw14 hP hD hS => ?_)
        try dsimp only at hw14
        have hP : va_P G vwCl [(h0, oX3 z0 o_cells y5 y6)] H := hP
        have hD : va_D A [(h0, oX3 z0 o_cells y5 y6)] := hD
        refine lv_lstore_n (lv' := [(3, .long r12), (2, .int x4), (1, .int x3), (0, .ref h0)]) hx hb dX3_cuts_14 rfl hl (by decide) rfl (fun ls hl => ?_)
        refine lv_aload_n hx hb dX3_cuts_15 rfl (lv_at hl 3 rfl) ?_
        refine va_get (D := G) (ci := 3) (v := .long y5) (C := RX3) (T := TX3) (N := 3) hx hb hts iG_X3 hown hK hP 0 rfl rfl 1 (by decide) (hts _ w_307) (fun _ h9 => h9) rfl dX3_cuts_16 ?_
        refine lv_lload_n hx hb dX3_cuts_19 rfl (lv_at hl 0 rfl) ?_
        refine lv_land hx hb dX3_cuts_20 ?_
        refine lv_topl (fun v15 ev15 => ?_)
        refine lv_lconst (v := 0) hx hb dX3_cuts_21 (by decide) ?_
        refine W.lcmp hx hb dX3_cuts_22 ?_
        refine lv_if_eq (tgt := 76) hx hb dX3_cuts_23 (by decide) (fun c16 => ?_) (fun c16 => ?_)
        · have c16 := c_eq rfl kl_0 c16
          refine lv_aload_n hx hb dX3_cuts_76 rfl (lv_at hl 3 rfl) ?_
          refine va_get (D := G) (ci := 3) (v := .long y6) (C := RX3) (T := TX3) (N := 3) hx hb hts iG_X3 hown hK hP 0 rfl rfl 2 (by decide) (hts _ w_308) (fun _ h9 => h9) rfl dX3_cuts_77 ?_
          refine lv_lload_n hx hb dX3_cuts_80 rfl (lv_at hl 0 rfl) ?_
          refine lv_land hx hb dX3_cuts_81 ?_
          refine lv_topl (fun v17 ev17 => ?_)
          refine lv_lconst (v := 0) hx hb dX3_cuts_82 (by decide) ?_
          refine W.lcmp hx hb dX3_cuts_83 ?_
          refine lv_if_eq (tgt := 136) hx hb dX3_cuts_84 (by decide) (fun c18 => ?_) (fun c18 => ?_)
          · have c18 := c_eq rfl kl_0 c18
            obtain ⟨v19, ev19⟩ : ∃ y : Int32, y = x4 + 1 := ⟨_, rfl⟩
            have tv19 : v19.toInt = x4.toInt + 1 := ti_add rfl ki_1 ev19 (by omega) (by omega)
            refine lv_iinc (v := v19) (lv' := [(2, .int v19), (3, .long r12), (1, .int x3), (0, .ref h0)]) hx hb dX3_cuts_136 hl (k := 1) rfl (by rw [ev19]; rfl) (by decide) rfl (fun ls hl => ?_)
            refine lv_goto (tgt := 4) hx hb dX3_cuts_139 (by decide) ?_
            exact ih9 x3 v19 y5 y6 (by omega) (by omega) (by omega) _ _ hP hD hS ls (lv_sub hl [0, 2, 3] rfl)
          · have c18 := c_neq rfl kl_0 c18
            refine lv_aload_n hx hb dX3_cuts_87 rfl (lv_at hl 3 rfl) ?_
            refine lv_dup hx hb dX3_cuts_88 rfl ?_
            refine va_get (D := G) (ci := 3) (v := .long y6) (C := RX3) (T := TX3) (N := 3) hx hb hts iG_X3 hown hK hP 0 rfl rfl 2 (by decide) (hts _ w_308) (fun _ h9 => h9) rfl dX3_cuts_89 ?_
            refine lv_lload_n hx hb dX3_cuts_92 rfl (lv_at hl 0 rfl) ?_
            refine lv_ldc2 (v := (-1)) hx hb hown (hts _ w_816) dX3_cuts_93 ?_
            refine lv_lxor hx hb dX3_cuts_96 ?_
            refine lv_topl (fun v20 ev20 => ?_)
            refine lv_land hx hb dX3_cuts_97 ?_
            refine lv_topl (fun v21 ev21 => ?_)
            refine va_put (D := G) (ci := 3) (v := .long v21) (ty := .long) (C := RX3) (T := TX3) (N := 3) hx hb hts iG_X3 tyX3 tyX3_ok nmX3 hown hK hP hD hS 0 rfl rfl 2 (by decide) (hts _ w_308) (fun _ h9 => h9) rfl (by decide +kernel) rfl rfl (Nat.le_of_ble_eq_true rfl) dX3_cuts_98 (fun H locs hP hD hS => ?_)
            have hP : va_P G vwCl [(h0, oX3 z0 o_cells y5 v21)] H := hP
            have hD : va_D A [(h0, oX3 z0 o_cells y5 v21)] := hD
            refine lv_iload_n hx hb dX3_cuts_101 rfl (lv_at hl 2 rfl) ?_
            refine lv_aload_n hx hb dX3_cuts_102 rfl (lv_at hl 3 rfl) ?_
            refine lv_iload_n hx hb dX3_cuts_103 rfl (lv_at hl 1 rfl) ?_
            refine k_l (wc := [(h0, oX3 z0 o_cells y5 v21)]) (wr := []) hP hD hS hA [0] [] rfl rfl rfl (by decide) (va_runV (As := [.int x4]) (rest := [.int x3]) ⟨hx, hb, hml, hown, hts⟩ (f_X3_reach l G cI cJ cZ cB cQ _ h0 x4 o_cells y5 v21) (cwV 1 hts (gV w_812 w_814 wp_49 w_8 w_815) rfl rfl rfl ⟨rfl, hd_X3_reach⟩ ⟨Nat.le_of_ble_eq_true rfl, Nat.le_of_ble_eq_true rfl⟩) (mV hK hZ hP hD [0] rfl rfl [.int x4] 0 3 rfl rfl) rfl rfl hl.1 rfl (lv_room (Nat.le_of_ble_eq_true rfl)) dX3_cuts_104 ⟨Nat.le_of_ble_eq_true rfl, Nat.le_of_ble_eq_true rfl⟩) (fun r22 u23 H locs hw24 hP hD hS => ?_)
            try dsimp only at hw24
            have hP : va_P G vwCl [(h0, oX3 z0 o_cells y5 v21)] H := hP
            have hD : va_D A [(h0, oX3 z0 o_cells y5 v21)] := hD
            refine lv_iload_n hx hb dX3_cuts_107 rfl (lv_at hl 1 rfl) ?_
            refine lv_iconst (v := 1) hx hb dX3_cuts_108 (by decide) ?_
            refine lv_iadd hx hb dX3_cuts_109 ?_
            refine lv_topi (fun v25 ev25 => ?_)
            have tv25 : v25.toInt = x4.toInt + 1 := ti_add rfl ki_1 ev25 (by omega) (by omega)
            refine k_i (wc := []) (wr := [(h0, oX3 z0 o_cells y5 v21)]) hP hD hS hA [] [0] rfl rfl rfl (by decide) (va_runSN (As := [.long r22, .int v25]) (rest := [.int x3]) ⟨hx, hb, hml, hown, hts⟩ (f_X9_has l G cI cJ cZ cB cQ _ r22 v25) ⟨va_cnB (host := "WidowRoads") 2 hts (gW w_527) rfl rfl rfl (nz_nw hZ nw_752 rfl) (hts _ w_1) hd_X9_has ⟨Nat.le_of_ble_eq_true rfl, Nat.le_of_ble_eq_true rfl⟩, (hts _ w_526), trivial⟩ (mS hK hZ hP hD [] rfl rfl [.long r22, .int v25]) rfl rfl hl.1 rfl (lv_room (Nat.le_of_ble_eq_true rfl)) dX3_cuts_110 ⟨Nat.le_of_ble_eq_true rfl, Nat.le_of_ble_eq_true rfl⟩) (fun r26 u27 H locs hw28 hP hD hS => ?_)
            try dsimp only at hw28
            have hP : va_P G vwCl [(h0, oX3 z0 o_cells y5 v21)] H := hP
            have hD : va_D A [(h0, oX3 z0 o_cells y5 v21)] := hD
            obtain ⟨w29, w30⟩ : 0 ≤ r26.toInt ∧ r26.toInt ≤ 1 := hw28
            refine lv_if_ne (tgt := 120) hx hb dX3_cuts_113 (by decide) (fun c31 => ?_) (fun c31 => ?_)
            · have c31 := i_ne rfl ki_0 c31
              refine lv_iconst (v := 0) hx hb dX3_cuts_120 (by decide) ?_
              refine k_i (wc := []) (wr := [(h0, oX3 z0 o_cells y5 v21)]) hP hD hS hA [] [0] rfl rfl rfl (by decide) (va_runSN (As := [.int 0]) (rest := [.int x3]) ⟨hx, hb, hml, hown, hts⟩ (f_X9_oneIf l G cI cJ cZ cB cQ _ 0) ⟨va_cnB (host := "WidowRoads") 1 hts (gW w_663) rfl rfl rfl (nz_nw hZ nw_786 rfl) (hts _ w_1) hd_X9_oneIf ⟨Nat.le_of_ble_eq_true rfl, Nat.le_of_ble_eq_true rfl⟩, (hts _ w_662), trivial⟩ (mS hK hZ hP hD [] rfl rfl [.int 0]) rfl rfl hl.1 rfl (lv_room (Nat.le_of_ble_eq_true rfl)) dX3_cuts_121 ⟨Nat.le_of_ble_eq_true rfl, Nat.le_of_ble_eq_true rfl⟩) (fun r32 u33 H locs hw34 hP hD hS => ?_)
              try dsimp only at hw34
              have hP : va_P G vwCl [(h0, oX3 z0 o_cells y5 v21)] H := hP
              have hD : va_D A [(h0, oX3 z0 o_cells y5 v21)] := hD
              obtain ⟨w35, w36⟩ : 0 ≤ r32.toInt ∧ r32.toInt ≤ 1 := hw34
              refine lv_iadd hx hb dX3_cuts_124 ?_
              refine lv_topi (fun v37 ev37 => ?_)
              refine lv_istore_n (lv' := [(1, .int v37), (3, .long r12), (2, .int x4), (0, .ref h0)]) hx hb dX3_cuts_125 rfl hl (by decide) rfl (fun ls hl => ?_)
              refine lv_aload_n hx hb dX3_cuts_126 rfl (lv_at hl 3 rfl) ?_
              refine lv_dup hx hb dX3_cuts_127 rfl ?_
              refine va_get (D := G) (ci := 3) (v := .long v21) (C := RX3) (T := TX3) (N := 3) hx hb hts iG_X3 hown hK hP 0 rfl rfl 2 (by decide) (hts _ w_308) (fun _ h9 => h9) rfl dX3_cuts_128 ?_
              refine lv_lload_n hx hb dX3_cuts_131 rfl (lv_at hl 1 rfl) ?_
              refine lv_lor hx hb dX3_cuts_132 ?_
              refine lv_topl (fun v38 ev38 => ?_)
              refine va_put (D := G) (ci := 3) (v := .long v38) (ty := .long) (C := RX3) (T := TX3) (N := 3) hx hb hts iG_X3 tyX3 tyX3_ok nmX3 hown hK hP hD hS 0 rfl rfl 2 (by decide) (hts _ w_308) (fun _ h9 => h9) rfl (by decide +kernel) rfl rfl (Nat.le_of_ble_eq_true rfl) dX3_cuts_133 (fun H locs hP hD hS => ?_)
              have hP : va_P G vwCl [(h0, oX3 z0 o_cells y5 v38)] H := hP
              have hD : va_D A [(h0, oX3 z0 o_cells y5 v38)] := hD
              obtain ⟨v39, ev39⟩ : ∃ y : Int32, y = x4 + 1 := ⟨_, rfl⟩
              have tv39 : v39.toInt = x4.toInt + 1 := ti_add rfl ki_1 ev39 (by omega) (by omega)
              refine lv_iinc (v := v39) (lv' := [(2, .int v39), (1, .int v37), (3, .long r12), (0, .ref h0)]) hx hb dX3_cuts_136 hl (k := 2) rfl (by rw [ev39]; rfl) (by decide) rfl (fun ls hl => ?_)
              refine lv_goto (tgt := 4) hx hb dX3_cuts_139 (by decide) ?_
              exact ih9 v37 v39 y5 v38 (by omega) (by omega) (by omega) _ _ hP hD hS ls (lv_sub hl [0, 1, 3] rfl)
            · have c31 := i_eq rfl ki_0 c31
              refine lv_iconst (v := 1) hx hb dX3_cuts_116 (by decide) ?_
              refine lv_goto (tgt := 121) hx hb dX3_cuts_117 (by decide) ?_
              refine k_i (wc := []) (wr := [(h0, oX3 z0 o_cells y5 v21)]) hP hD hS hA [] [0] rfl rfl rfl (by decide) (va_runSN (As := [.int 1]) (rest := [.int x3]) ⟨hx, hb, hml, hown, hts⟩ (f_X9_oneIf l G cI cJ cZ cB cQ _ 1) ⟨va_cnB (host := "WidowRoads") 1 hts (gW w_663) rfl rfl rfl (nz_nw hZ nw_786 rfl) (hts _ w_1) hd_X9_oneIf ⟨Nat.le_of_ble_eq_true rfl, Nat.le_of_ble_eq_true rfl⟩, (hts _ w_662), trivial⟩ (mS hK hZ hP hD [] rfl rfl [.int 1]) rfl rfl hl.1 rfl (lv_room (Nat.le_of_ble_eq_true rfl)) dX3_cuts_121 ⟨Nat.le_of_ble_eq_true rfl, Nat.le_of_ble_eq_true rfl⟩) (fun r40 u41 H locs hw42 hP hD hS => ?_)
              try dsimp only at hw42
              have hP : va_P G vwCl [(h0, oX3 z0 o_cells y5 v21)] H := hP
              have hD : va_D A [(h0, oX3 z0 o_cells y5 v21)] := hD
              obtain ⟨w43, w44⟩ : 0 ≤ r40.toInt ∧ r40.toInt ≤ 1 := hw42
              refine lv_iadd hx hb dX3_cuts_124 ?_
              refine lv_topi (fun v45 ev45 => ?_)
              refine lv_istore_n (lv' := [(1, .int v45), (3, .long r12), (2, .int x4), (0, .ref h0)]) hx hb dX3_cuts_125 rfl hl (by decide) rfl (fun ls hl => ?_)
              refine lv_aload_n hx hb dX3_cuts_126 rfl (lv_at hl 3 rfl) ?_
              refine lv_dup hx hb dX3_cuts_127 rfl ?_
              refine va_get (D := G) (ci := 3) (v := .long v21) (C := RX3) (T := TX3) (N := 3) hx hb hts iG_X3 hown hK hP 0 rfl rfl 2 (by decide) (hts _ w_308) (fun _ h9 => h9) rfl dX3_cuts_128 ?_
              refine lv_lload_n hx hb dX3_cuts_131 rfl (lv_at hl 1 rfl) ?_
              refine lv_lor hx hb dX3_cuts_132 ?_
              refine lv_topl (fun v46 ev46 => ?_)
              refine va_put (D := G) (ci := 3) (v := .long v46) (ty := .long) (C := RX3) (T := TX3) (N := 3) hx hb hts iG_X3 tyX3 tyX3_ok nmX3 hown hK hP hD hS 0 rfl rfl 2 (by decide) (hts _ w_308) (fun _ h9 => h9) rfl (by decide +kernel) rfl rfl (Nat.le_of_ble_eq_true rfl) dX3_cuts_133 (fun H locs hP hD hS => ?_)
              have hP : va_P G vwCl [(h0, oX3 z0 o_cells y5 v46)] H := hP
              have hD : va_D A [(h0, oX3 z0 o_cells y5 v46)] := hD
              obtain ⟨v47, ev47⟩ : ∃ y : Int32, y = x4 + 1 := ⟨_, rfl⟩
              have tv47 : v47.toInt = x4.toInt + 1 := ti_add rfl ki_1 ev47 (by omega) (by omega)
              refine lv_iinc (v := v47) (lv' := [(2, .int v47), (1, .int v45), (3, .long r12), (0, .ref h0)]) hx hb dX3_cuts_136 hl (k := 2) rfl (by rw [ev47]; rfl) (by decide) rfl (fun ls hl => ?_)
              refine lv_goto (tgt := 4) hx hb dX3_cuts_139 (by decide) ?_
              exact ih9 v45 v47 y5 v46 (by omega) (by omega) (by omega) _ _ hP hD hS ls (lv_sub hl [0, 1, 3] rfl)
        · have c16 := c_neq rfl kl_0 c16
          refine lv_aload_n hx hb dX3_cuts_26 rfl (lv_at hl 3 rfl) ?_
          refine lv_dup hx hb dX3_cuts_27 rfl ?_
          refine va_get (D := G) (ci := 3) (v := .long y5) (C := RX3) (T := TX3) (N := 3) hx hb hts iG_X3 hown hK hP 0 rfl rfl 1 (by decide) (hts _ w_307) (fun _ h9 => h9) rfl dX3_cuts_28 ?_
          refine lv_lload_n hx hb dX3_cuts_31 rfl (lv_at hl 0 rfl) ?_
          refine lv_ldc2 (v := (-1)) hx hb hown (hts _ w_816) dX3_cuts_32 ?_
          refine lv_lxor hx hb dX3_cuts_35 ?_
          refine lv_topl (fun v48 ev48 => ?_)
          refine lv_land hx hb dX3_cuts_36 ?_
          refine lv_topl (fun v49 ev49 => ?_)
          refine va_put (D := G) (ci := 3) (v := .long v49) (ty := .long) (C := RX3) (T := TX3) (N := 3) hx hb hts iG_X3 tyX3 tyX3_ok nmX3 hown hK hP hD hS 0 rfl rfl 1 (by decide) (hts _ w_307) (fun _ h9 => h9) rfl (by decide +kernel) rfl rfl (Nat.le_of_ble_eq_true rfl) dX3_cuts_37 (fun H locs hP hD hS => ?_)
          have hP : va_P G vwCl [(h0, oX3 z0 o_cells v49 y6)] H := hP
          have hD : va_D A [(h0, oX3 z0 o_cells v49 y6)] := hD
          refine lv_iload_n hx hb dX3_cuts_40 rfl (lv_at hl 2 rfl) ?_
          refine lv_aload_n hx hb dX3_cuts_41 rfl (lv_at hl 3 rfl) ?_
          refine lv_iload_n hx hb dX3_cuts_42 rfl (lv_at hl 1 rfl) ?_
          refine k_l (wc := [(h0, oX3 z0 o_cells v49 y6)]) (wr := []) hP hD hS hA [0] [] rfl rfl rfl (by decide) (va_runV (As := [.int x4]) (rest := [.int x3]) ⟨hx, hb, hml, hown, hts⟩ (f_X3_reach l G cI cJ cZ cB cQ _ h0 x4 o_cells v49 y6) (cwV 1 hts (gV w_812 w_814 wp_49 w_8 w_815) rfl rfl rfl ⟨rfl, hd_X3_reach⟩ ⟨Nat.le_of_ble_eq_true rfl, Nat.le_of_ble_eq_true rfl⟩) (mV hK hZ hP hD [0] rfl rfl [.int x4] 0 3 rfl rfl) rfl rfl hl.1 rfl (lv_room (Nat.le_of_ble_eq_true rfl)) dX3_cuts_43 ⟨Nat.le_of_ble_eq_true rfl, Nat.le_of_ble_eq_true rfl⟩) (fun r50 u51 H locs hw52 hP hD hS => ?_)
          try dsimp only at hw52
          have hP : va_P G vwCl [(h0, oX3 z0 o_cells v49 y6)] H := hP
          have hD : va_D A [(h0, oX3 z0 o_cells v49 y6)] := hD
          refine lv_iload_n hx hb dX3_cuts_46 rfl (lv_at hl 1 rfl) ?_
          refine lv_bipush (v := 8) hx hb dX3_cuts_47 (by decide) ?_
          refine lv_iadd hx hb dX3_cuts_49 ?_
          refine lv_topi (fun v53 ev53 => ?_)
          have tv53 : v53.toInt = x4.toInt + 8 := ti_add rfl ki_8 ev53 (by omega) (by omega)
          refine k_i (wc := []) (wr := [(h0, oX3 z0 o_cells v49 y6)]) hP hD hS hA [] [0] rfl rfl rfl (by decide) (va_runSN (As := [.long r50, .int v53]) (rest := [.int x3]) ⟨hx, hb, hml, hown, hts⟩ (f_X9_has l G cI cJ cZ cB cQ _ r50 v53) ⟨va_cnB (host := "WidowRoads") 2 hts (gW w_527) rfl rfl rfl (nz_nw hZ nw_752 rfl) (hts _ w_1) hd_X9_has ⟨Nat.le_of_ble_eq_true rfl, Nat.le_of_ble_eq_true rfl⟩, (hts _ w_526), trivial⟩ (mS hK hZ hP hD [] rfl rfl [.long r50, .int v53]) rfl rfl hl.1 rfl (lv_room (Nat.le_of_ble_eq_true rfl)) dX3_cuts_50 ⟨Nat.le_of_ble_eq_true rfl, Nat.le_of_ble_eq_true rfl⟩) (fun r54 u55 H locs hw56 hP hD hS => ?_)
          try dsimp only at hw56
          have hP : va_P G vwCl [(h0, oX3 z0 o_cells v49 y6)] H := hP
          have hD : va_D A [(h0, oX3 z0 o_cells v49 y6)] := hD
          obtain ⟨w57, w58⟩ : 0 ≤ r54.toInt ∧ r54.toInt ≤ 1 := hw56
          refine lv_if_ne (tgt := 60) hx hb dX3_cuts_53 (by decide) (fun c59 => ?_) (fun c59 => ?_)
          · have c59 := i_ne rfl ki_0 c59
            refine lv_iconst (v := 0) hx hb dX3_cuts_60 (by decide) ?_
            refine k_i (wc := []) (wr := [(h0, oX3 z0 o_cells v49 y6)]) hP hD hS hA [] [0] rfl rfl rfl (by decide) (va_runSN (As := [.int 0]) (rest := [.int x3]) ⟨hx, hb, hml, hown, hts⟩ (f_X9_oneIf l G cI cJ cZ cB cQ _ 0) ⟨va_cnB (host := "WidowRoads") 1 hts (gW w_663) rfl rfl rfl (nz_nw hZ nw_786 rfl) (hts _ w_1) hd_X9_oneIf ⟨Nat.le_of_ble_eq_true rfl, Nat.le_of_ble_eq_true rfl⟩, (hts _ w_662), trivial⟩ (mS hK hZ hP hD [] rfl rfl [.int 0]) rfl rfl hl.1 rfl (lv_room (Nat.le_of_ble_eq_true rfl)) dX3_cuts_61 ⟨Nat.le_of_ble_eq_true rfl, Nat.le_of_ble_eq_true rfl⟩) (fun r60 u61 H locs hw62 hP hD hS => ?_)
            try dsimp only at hw62
            have hP : va_P G vwCl [(h0, oX3 z0 o_cells v49 y6)] H := hP
            have hD : va_D A [(h0, oX3 z0 o_cells v49 y6)] := hD
            obtain ⟨w63, w64⟩ : 0 ≤ r60.toInt ∧ r60.toInt ≤ 1 := hw62
            refine lv_iadd hx hb dX3_cuts_64 ?_
            refine lv_topi (fun v65 ev65 => ?_)
            refine lv_istore_n (lv' := [(1, .int v65), (3, .long r12), (2, .int x4), (0, .ref h0)]) hx hb dX3_cuts_65 rfl hl (by decide) rfl (fun ls hl => ?_)
            refine lv_aload_n hx hb dX3_cuts_66 rfl (lv_at hl 3 rfl) ?_
            refine lv_dup hx hb dX3_cuts_67 rfl ?_
            refine va_get (D := G) (ci := 3) (v := .long v49) (C := RX3) (T := TX3) (N := 3) hx hb hts iG_X3 hown hK hP 0 rfl rfl 1 (by decide) (hts _ w_307) (fun _ h9 => h9) rfl dX3_cuts_68 ?_
            refine lv_lload_n hx hb dX3_cuts_71 rfl (lv_at hl 1 rfl) ?_
            refine lv_lor hx hb dX3_cuts_72 ?_
            refine lv_topl (fun v66 ev66 => ?_)
            refine va_put (D := G) (ci := 3) (v := .long v66) (ty := .long) (C := RX3) (T := TX3) (N := 3) hx hb hts iG_X3 tyX3 tyX3_ok nmX3 hown hK hP hD hS 0 rfl rfl 1 (by decide) (hts _ w_307) (fun _ h9 => h9) rfl (by decide +kernel) rfl rfl (Nat.le_of_ble_eq_true rfl) dX3_cuts_73 (fun H locs hP hD hS => ?_)
            have hP : va_P G vwCl [(h0, oX3 z0 o_cells v66 y6)] H := hP
            have hD : va_D A [(h0, oX3 z0 o_cells v66 y6)] := hD
            refine lv_aload_n hx hb dX3_cuts_76 rfl (lv_at hl 3 rfl) ?_
            refine va_get (D := G) (ci := 3) (v := .long y6) (C := RX3) (T := TX3) (N := 3) hx hb hts iG_X3 hown hK hP 0 rfl rfl 2 (by decide) (hts _ w_308) (fun _ h9 => h9) rfl dX3_cuts_77 ?_
            refine lv_lload_n hx hb dX3_cuts_80 rfl (lv_at hl 1 rfl) ?_
            refine lv_land hx hb dX3_cuts_81 ?_
            refine lv_topl (fun v67 ev67 => ?_)
            refine lv_lconst (v := 0) hx hb dX3_cuts_82 (by decide) ?_
            refine W.lcmp hx hb dX3_cuts_83 ?_
            refine lv_if_eq (tgt := 136) hx hb dX3_cuts_84 (by decide) (fun c68 => ?_) (fun c68 => ?_)
            · have c68 := c_eq rfl kl_0 c68
              obtain ⟨v69, ev69⟩ : ∃ y : Int32, y = x4 + 1 := ⟨_, rfl⟩
              have tv69 : v69.toInt = x4.toInt + 1 := ti_add rfl ki_1 ev69 (by omega) (by omega)
              refine lv_iinc (v := v69) (lv' := [(2, .int v69), (1, .int v65), (3, .long r12), (0, .ref h0)]) hx hb dX3_cuts_136 hl (k := 2) rfl (by rw [ev69]; rfl) (by decide) rfl (fun ls hl => ?_)
              refine lv_goto (tgt := 4) hx hb dX3_cuts_139 (by decide) ?_
              exact ih9 v65 v69 v66 y6 (by omega) (by omega) (by omega) _ _ hP hD hS ls (lv_sub hl [0, 1, 3] rfl)
            · have c68 := c_neq rfl kl_0 c68
              refine lv_aload_n hx hb dX3_cuts_87 rfl (lv_at hl 3 rfl) ?_
              refine lv_dup hx hb dX3_cuts_88 rfl ?_
              refine va_get (D := G) (ci := 3) (v := .long y6) (C := RX3) (T := TX3) (N := 3) hx hb hts iG_X3 hown hK hP 0 rfl rfl 2 (by decide) (hts _ w_308) (fun _ h9 => h9) rfl dX3_cuts_89 ?_
              refine lv_lload_n hx hb dX3_cuts_92 rfl (lv_at hl 1 rfl) ?_
              refine lv_ldc2 (v := (-1)) hx hb hown (hts _ w_816) dX3_cuts_93 ?_
              refine lv_lxor hx hb dX3_cuts_96 ?_
              refine lv_topl (fun v70 ev70 => ?_)
              refine lv_land hx hb dX3_cuts_97 ?_
              refine lv_topl (fun v71 ev71 => ?_)
              refine va_put (D := G) (ci := 3) (v := .long v71) (ty := .long) (C := RX3) (T := TX3) (N := 3) hx hb hts iG_X3 tyX3 tyX3_ok nmX3 hown hK hP hD hS 0 rfl rfl 2 (by decide) (hts _ w_308) (fun _ h9 => h9) rfl (by decide +kernel) rfl rfl (Nat.le_of_ble_eq_true rfl) dX3_cuts_98 (fun H locs hP hD hS => ?_)
              have hP : va_P G vwCl [(h0, oX3 z0 o_cells v66 v71)] H := hP
              have hD : va_D A [(h0, oX3 z0 o_cells v66 v71)] := hD
              refine lv_iload_n hx hb dX3_cuts_101 rfl (lv_at hl 0 rfl) ?_
              refine lv_aload_n hx hb dX3_cuts_102 rfl (lv_at hl 3 rfl) ?_
              refine lv_iload_n hx hb dX3_cuts_103 rfl (lv_at hl 2 rfl) ?_
              refine k_l (wc := [(h0, oX3 z0 o_cells v66 v71)]) (wr := []) hP hD hS hA [0] [] rfl rfl rfl (by decide) (va_runV (As := [.int x4]) (rest := [.int v65]) ⟨hx, hb, hml, hown, hts⟩ (f_X3_reach l G cI cJ cZ cB cQ _ h0 x4 o_cells v66 v71) (cwV 1 hts (gV w_812 w_814 wp_49 w_8 w_815) rfl rfl rfl ⟨rfl, hd_X3_reach⟩ ⟨Nat.le_of_ble_eq_true rfl, Nat.le_of_ble_eq_true rfl⟩) (mV hK hZ hP hD [0] rfl rfl [.int x4] 0 3 rfl rfl) rfl rfl hl.1 rfl (lv_room (Nat.le_of_ble_eq_true rfl)) dX3_cuts_104 ⟨Nat.le_of_ble_eq_true rfl, Nat.le_of_ble_eq_true rfl⟩) (fun r72 u73 H locs hw74 hP hD hS => ?_)
              try dsimp only at hw74
              have hP : va_P G vwCl [(h0, oX3 z0 o_cells v66 v71)] H := hP
              have hD : va_D A [(h0, oX3 z0 o_cells v66 v71)] := hD
              refine lv_iload_n hx hb dX3_cuts_107 rfl (lv_at hl 2 rfl) ?_
              refine lv_iconst (v := 1) hx hb dX3_cuts_108 (by decide) ?_
              refine lv_iadd hx hb dX3_cuts_109 ?_
              refine lv_topi (fun v75 ev75 => ?_)
              have tv75 : v75.toInt = x4.toInt + 1 := ti_add rfl ki_1 ev75 (by omega) (by omega)
              refine k_i (wc := []) (wr := [(h0, oX3 z0 o_cells v66 v71)]) hP hD hS hA [] [0] rfl rfl rfl (by decide) (va_runSN (As := [.long r72, .int v75]) (rest := [.int v65]) ⟨hx, hb, hml, hown, hts⟩ (f_X9_has l G cI cJ cZ cB cQ _ r72 v75) ⟨va_cnB (host := "WidowRoads") 2 hts (gW w_527) rfl rfl rfl (nz_nw hZ nw_752 rfl) (hts _ w_1) hd_X9_has ⟨Nat.le_of_ble_eq_true rfl, Nat.le_of_ble_eq_true rfl⟩, (hts _ w_526), trivial⟩ (mS hK hZ hP hD [] rfl rfl [.long r72, .int v75]) rfl rfl hl.1 rfl (lv_room (Nat.le_of_ble_eq_true rfl)) dX3_cuts_110 ⟨Nat.le_of_ble_eq_true rfl, Nat.le_of_ble_eq_true rfl⟩) (fun r76 u77 H locs hw78 hP hD hS => ?_)
              try dsimp only at hw78
              have hP : va_P G vwCl [(h0, oX3 z0 o_cells v66 v71)] H := hP
              have hD : va_D A [(h0, oX3 z0 o_cells v66 v71)] := hD
              obtain ⟨w79, w80⟩ : 0 ≤ r76.toInt ∧ r76.toInt ≤ 1 := hw78
              refine lv_if_ne (tgt := 120) hx hb dX3_cuts_113 (by decide) (fun c81 => ?_) (fun c81 => ?_)
              · have c81 := i_ne rfl ki_0 c81
                refine lv_iconst (v := 0) hx hb dX3_cuts_120 (by decide) ?_
                refine k_i (wc := []) (wr := [(h0, oX3 z0 o_cells v66 v71)]) hP hD hS hA [] [0] rfl rfl rfl (by decide) (va_runSN (As := [.int 0]) (rest := [.int v65]) ⟨hx, hb, hml, hown, hts⟩ (f_X9_oneIf l G cI cJ cZ cB cQ _ 0) ⟨va_cnB (host := "WidowRoads") 1 hts (gW w_663) rfl rfl rfl (nz_nw hZ nw_786 rfl) (hts _ w_1) hd_X9_oneIf ⟨Nat.le_of_ble_eq_true rfl, Nat.le_of_ble_eq_true rfl⟩, (hts _ w_662), trivial⟩ (mS hK hZ hP hD [] rfl rfl [.int 0]) rfl rfl hl.1 rfl (lv_room (Nat.le_of_ble_eq_true rfl)) dX3_cuts_121 ⟨Nat.le_of_ble_eq_true rfl, Nat.le_of_ble_eq_true rfl⟩) (fun r82 u83 H locs hw84 hP hD hS => ?_)
                try dsimp only at hw84
                have hP : va_P G vwCl [(h0, oX3 z0 o_cells v66 v71)] H := hP
                have hD : va_D A [(h0, oX3 z0 o_cells v66 v71)] := hD
                obtain ⟨w85, w86⟩ : 0 ≤ r82.toInt ∧ r82.toInt ≤ 1 := hw84
                refine lv_iadd hx hb dX3_cuts_124 ?_
                refine lv_topi (fun v87 ev87 => ?_)
                refine lv_istore_n (lv' := [(1, .int v87), (3, .long r12), (2, .int x4), (0, .ref h0)]) hx hb dX3_cuts_125 rfl hl (by decide) rfl (fun ls hl => ?_)
                refine lv_aload_n hx hb dX3_cuts_126 rfl (lv_at hl 3 rfl) ?_
                refine lv_dup hx hb dX3_cuts_127 rfl ?_
                refine va_get (D := G) (ci := 3) (v := .long v71) (C := RX3) (T := TX3) (N := 3) hx hb hts iG_X3 hown hK hP 0 rfl rfl 2 (by decide) (hts _ w_308) (fun _ h9 => h9) rfl dX3_cuts_128 ?_
                refine lv_lload_n hx hb dX3_cuts_131 rfl (lv_at hl 1 rfl) ?_
                refine lv_lor hx hb dX3_cuts_132 ?_
                refine lv_topl (fun v88 ev88 => ?_)
                refine va_put (D := G) (ci := 3) (v := .long v88) (ty := .long) (C := RX3) (T := TX3) (N := 3) hx hb hts iG_X3 tyX3 tyX3_ok nmX3 hown hK hP hD hS 0 rfl rfl 2 (by decide) (hts _ w_308) (fun _ h9 => h9) rfl (by decide +kernel) rfl rfl (Nat.le_of_ble_eq_true rfl) dX3_cuts_133 (fun H locs hP hD hS => ?_)
                have hP : va_P G vwCl [(h0, oX3 z0 o_cells v66 v88)] H := hP
                have hD : va_D A [(h0, oX3 z0 o_cells v66 v88)] := hD
                obtain ⟨v89, ev89⟩ : ∃ y : Int32, y = x4 + 1 := ⟨_, rfl⟩
                have tv89 : v89.toInt = x4.toInt + 1 := ti_add rfl ki_1 ev89 (by omega) (by omega)
                refine lv_iinc (v := v89) (lv' := [(2, .int v89), (1, .int v87), (3, .long r12), (0, .ref h0)]) hx hb dX3_cuts_136 hl (k := 2) rfl (by rw [ev89]; rfl) (by decide) rfl (fun ls hl => ?_)
                refine lv_goto (tgt := 4) hx hb dX3_cuts_139 (by decide) ?_
                exact ih9 v87 v89 v66 v88 (by omega) (by omega) (by omega) _ _ hP hD hS ls (lv_sub hl [0, 1, 3] rfl)
              · have c81 := i_eq rfl ki_0 c81
                refine lv_iconst (v := 1) hx hb dX3_cuts_116 (by decide) ?_
                refine lv_goto (tgt := 121) hx hb dX3_cuts_117 (by decide) ?_
                refine k_i (wc := []) (wr := [(h0, oX3 z0 o_cells v66 v71)]) hP hD hS hA [] [0] rfl rfl rfl (by decide) (va_runSN (As := [.int 1]) (rest := [.int v65]) ⟨hx, hb, hml, hown, hts⟩ (f_X9_oneIf l G cI cJ cZ cB cQ _ 1) ⟨va_cnB (host := "WidowRoads") 1 hts (gW w_663) rfl rfl rfl (nz_nw hZ nw_786 rfl) (hts _ w_1) hd_X9_oneIf ⟨Nat.le_of_ble_eq_true rfl, Nat.le_of_ble_eq_true rfl⟩, (hts _ w_662), trivial⟩ (mS hK hZ hP hD [] rfl rfl [.int 1]) rfl rfl hl.1 rfl (lv_room (Nat.le_of_ble_eq_true rfl)) dX3_cuts_121 ⟨Nat.le_of_ble_eq_true rfl, Nat.le_of_ble_eq_true rfl⟩) (fun r90 u91 H locs hw92 hP hD hS => ?_)
                try dsimp only at hw92
                have hP : va_P G vwCl [(h0, oX3 z0 o_cells v66 v71)] H := hP
                have hD : va_D A [(h0, oX3 z0 o_cells v66 v71)] := hD
                obtain ⟨w93, w94⟩ : 0 ≤ r90.toInt ∧ r90.toInt ≤ 1 := hw92
                refine lv_iadd hx hb dX3_cuts_124 ?_
                refine lv_topi (fun v95 ev95 => ?_)
                refine lv_istore_n (lv' := [(1, .int v95), (3, .long r12), (2, .int x4), (0, .ref h0)]) hx hb dX3_cuts_125 rfl hl (by decide) rfl (fun ls hl => ?_)
                refine lv_aload_n hx hb dX3_cuts_126 rfl (lv_at hl 3 rfl) ?_
                refine lv_dup hx hb dX3_cuts_127 rfl ?_
                refine va_get (D := G) (ci := 3) (v := .long v71) (C := RX3) (T := TX3) (N := 3) hx hb hts iG_X3 hown hK hP 0 rfl rfl 2 (by decide) (hts _ w_308) (fun _ h9 => h9) rfl dX3_cuts_128 ?_
                refine lv_lload_n hx hb dX3_cuts_131 rfl (lv_at hl 1 rfl) ?_
                refine lv_lor hx hb dX3_cuts_132 ?_
                refine lv_topl (fun v96 ev96 => ?_)
                refine va_put (D := G) (ci := 3) (v := .long v96) (ty := .long) (C := RX3) (T := TX3) (N := 3) hx hb hts iG_X3 tyX3 tyX3_ok nmX3 hown hK hP hD hS 0 rfl rfl 2 (by decide) (hts _ w_308) (fun _ h9 => h9) rfl (by decide +kernel) rfl rfl (Nat.le_of_ble_eq_true rfl) dX3_cuts_133 (fun H locs hP hD hS => ?_)
                have hP : va_P G vwCl [(h0, oX3 z0 o_cells v66 v96)] H := hP
                have hD : va_D A [(h0, oX3 z0 o_cells v66 v96)] := hD
                obtain ⟨v97, ev97⟩ : ∃ y : Int32, y = x4 + 1 := ⟨_, rfl⟩
                have tv97 : v97.toInt = x4.toInt + 1 := ti_add rfl ki_1 ev97 (by omega) (by omega)
                refine lv_iinc (v := v97) (lv' := [(2, .int v97), (1, .int v95), (3, .long r12), (0, .ref h0)]) hx hb dX3_cuts_136 hl (k := 2) rfl (by rw [ev97]; rfl) (by decide) rfl (fun ls hl => ?_)
                refine lv_goto (tgt := 4) hx hb dX3_cuts_139 (by decide) ?_
                exact ih9 v95 v97 v66 v96 (by omega) (by omega) (by omega) _ _ hP hD hS ls (lv_sub hl [0, 1, 3] rfl)
          · have c59 := i_eq rfl ki_0 c59
            refine lv_iconst (v := 1) hx hb dX3_cuts_56 (by decide) ?_
            refine lv_goto (tgt := 61) hx hb dX3_cuts_57 (by decide) ?_
            refine k_i (wc := []) (wr := [(h0, oX3 z0 o_cells v49 y6)]) hP hD hS hA [] [0] rfl rfl rfl (by decide) (va_runSN (As := [.int 1]) (rest := [.int x3]) ⟨hx, hb, hml, hown, hts⟩ (f_X9_oneIf l G cI cJ cZ cB cQ _ 1) ⟨va_cnB (host := "WidowRoads") 1 hts (gW w_663) rfl rfl rfl (nz_nw hZ nw_786 rfl) (hts _ w_1) hd_X9_oneIf ⟨Nat.le_of_ble_eq_true rfl, Nat.le_of_ble_eq_true rfl⟩, (hts _ w_662), trivial⟩ (mS hK hZ hP hD [] rfl rfl [.int 1]) rfl rfl hl.1 rfl (lv_room (Nat.le_of_ble_eq_true rfl)) dX3_cuts_61 ⟨Nat.le_of_ble_eq_true rfl, Nat.le_of_ble_eq_true rfl⟩) (fun r98 u99 H locs hw100 hP hD hS => ?_)
            try dsimp only at hw100
            have hP : va_P G vwCl [(h0, oX3 z0 o_cells v49 y6)] H := hP
            have hD : va_D A [(h0, oX3 z0 o_cells v49 y6)] := hD
            obtain ⟨w101, w102⟩ : 0 ≤ r98.toInt ∧ r98.toInt ≤ 1 := hw100
            refine lv_iadd hx hb dX3_cuts_64 ?_
            refine lv_topi (fun v103 ev103 => ?_)
            refine lv_istore_n (lv' := [(1, .int v103), (3, .long r12), (2, .int x4), (0, .ref h0)]) hx hb dX3_cuts_65 rfl hl (by decide) rfl (fun ls hl => ?_)
            refine lv_aload_n hx hb dX3_cuts_66 rfl (lv_at hl 3 rfl) ?_
            refine lv_dup hx hb dX3_cuts_67 rfl ?_
            refine va_get (D := G) (ci := 3) (v := .long v49) (C := RX3) (T := TX3) (N := 3) hx hb hts iG_X3 hown hK hP 0 rfl rfl 1 (by decide) (hts _ w_307) (fun _ h9 => h9) rfl dX3_cuts_68 ?_
            refine lv_lload_n hx hb dX3_cuts_71 rfl (lv_at hl 1 rfl) ?_
            refine lv_lor hx hb dX3_cuts_72 ?_
            refine lv_topl (fun v104 ev104 => ?_)
            refine va_put (D := G) (ci := 3) (v := .long v104) (ty := .long) (C := RX3) (T := TX3) (N := 3) hx hb hts iG_X3 tyX3 tyX3_ok nmX3 hown hK hP hD hS 0 rfl rfl 1 (by decide) (hts _ w_307) (fun _ h9 => h9) rfl (by decide +kernel) rfl rfl (Nat.le_of_ble_eq_true rfl) dX3_cuts_73 (fun H locs hP hD hS => ?_)
            have hP : va_P G vwCl [(h0, oX3 z0 o_cells v104 y6)] H := hP
            have hD : va_D A [(h0, oX3 z0 o_cells v104 y6)] := hD
            refine lv_aload_n hx hb dX3_cuts_76 rfl (lv_at hl 3 rfl) ?_
            refine va_get (D := G) (ci := 3) (v := .long y6) (C := RX3) (T := TX3) (N := 3) hx hb hts iG_X3 hown hK hP 0 rfl rfl 2 (by decide) (hts _ w_308) (fun _ h9 => h9) rfl dX3_cuts_77 ?_
            refine lv_lload_n hx hb dX3_cuts_80 rfl (lv_at hl 1 rfl) ?_
            refine lv_land hx hb dX3_cuts_81 ?_
            refine lv_topl (fun v105 ev105 => ?_)
            refine lv_lconst (v := 0) hx hb dX3_cuts_82 (by decide) ?_
            refine W.lcmp hx hb dX3_cuts_83 ?_
            refine lv_if_eq (tgt := 136) hx hb dX3_cuts_84 (by decide) (fun c106 => ?_) (fun c106 => ?_)
            · have c106 := c_eq rfl kl_0 c106
              obtain ⟨v107, ev107⟩ : ∃ y : Int32, y = x4 + 1 := ⟨_, rfl⟩
              have tv107 : v107.toInt = x4.toInt + 1 := ti_add rfl ki_1 ev107 (by omega) (by omega)
              refine lv_iinc (v := v107) (lv' := [(2, .int v107), (1, .int v103), (3, .long r12), (0, .ref h0)]) hx hb dX3_cuts_136 hl (k := 2) rfl (by rw [ev107]; rfl) (by decide) rfl (fun ls hl => ?_)
              refine lv_goto (tgt := 4) hx hb dX3_cuts_139 (by decide) ?_
              exact ih9 v103 v107 v104 y6 (by omega) (by omega) (by omega) _ _ hP hD hS ls (lv_sub hl [0, 1, 3] rfl)
            · have c106 := c_neq rfl kl_0 c106
              refine lv_aload_n hx hb dX3_cuts_87 rfl (lv_at hl 3 rfl) ?_
              refine lv_dup hx hb dX3_cuts_88 rfl ?_
              refine va_get (D := G) (ci := 3) (v := .long y6) (C := RX3) (T := TX3) (N := 3) hx hb hts iG_X3 hown hK hP 0 rfl rfl 2 (by decide) (hts _ w_308) (fun _ h9 => h9) rfl dX3_cuts_89 ?_
              refine lv_lload_n hx hb dX3_cuts_92 rfl (lv_at hl 1 rfl) ?_
              refine lv_ldc2 (v := (-1)) hx hb hown (hts _ w_816) dX3_cuts_93 ?_
              refine lv_lxor hx hb dX3_cuts_96 ?_
              refine lv_topl (fun v108 ev108 => ?_)
              refine lv_land hx hb dX3_cuts_97 ?_
              refine lv_topl (fun v109 ev109 => ?_)
              refine va_put (D := G) (ci := 3) (v := .long v109) (ty := .long) (C := RX3) (T := TX3) (N := 3) hx hb hts iG_X3 tyX3 tyX3_ok nmX3 hown hK hP hD hS 0 rfl rfl 2 (by decide) (hts _ w_308) (fun _ h9 => h9) rfl (by decide +kernel) rfl rfl (Nat.le_of_ble_eq_true rfl) dX3_cuts_98 (fun H locs hP hD hS => ?_)
              have hP : va_P G vwCl [(h0, oX3 z0 o_cells v104 v109)] H := hP
              have hD : va_D A [(h0, oX3 z0 o_cells v104 v109)] := hD
              refine lv_iload_n hx hb dX3_cuts_101 rfl (lv_at hl 0 rfl) ?_
              refine lv_aload_n hx hb dX3_cuts_102 rfl (lv_at hl 3 rfl) ?_
              refine lv_iload_n hx hb dX3_cuts_103 rfl (lv_at hl 2 rfl) ?_
              refine k_l (wc := [(h0, oX3 z0 o_cells v104 v109)]) (wr := []) hP hD hS hA [0] [] rfl rfl rfl (by decide) (va_runV (As := [.int x4]) (rest := [.int v103]) ⟨hx, hb, hml, hown, hts⟩ (f_X3_reach l G cI cJ cZ cB cQ _ h0 x4 o_cells v104 v109) (cwV 1 hts (gV w_812 w_814 wp_49 w_8 w_815) rfl rfl rfl ⟨rfl, hd_X3_reach⟩ ⟨Nat.le_of_ble_eq_true rfl, Nat.le_of_ble_eq_true rfl⟩) (mV hK hZ hP hD [0] rfl rfl [.int x4] 0 3 rfl rfl) rfl rfl hl.1 rfl (lv_room (Nat.le_of_ble_eq_true rfl)) dX3_cuts_104 ⟨Nat.le_of_ble_eq_true rfl, Nat.le_of_ble_eq_true rfl⟩) (fun r110 u111 H locs hw112 hP hD hS => ?_)
              try dsimp only at hw112
              have hP : va_P G vwCl [(h0, oX3 z0 o_cells v104 v109)] H := hP
              have hD : va_D A [(h0, oX3 z0 o_cells v104 v109)] := hD
              refine lv_iload_n hx hb dX3_cuts_107 rfl (lv_at hl 2 rfl) ?_
              refine lv_iconst (v := 1) hx hb dX3_cuts_108 (by decide) ?_
              refine lv_iadd hx hb dX3_cuts_109 ?_
              refine lv_topi (fun v113 ev113 => ?_)
              have tv113 : v113.toInt = x4.toInt + 1 := ti_add rfl ki_1 ev113 (by omega) (by omega)
              refine k_i (wc := []) (wr := [(h0, oX3 z0 o_cells v104 v109)]) hP hD hS hA [] [0] rfl rfl rfl (by decide) (va_runSN (As := [.long r110, .int v113]) (rest := [.int v103]) ⟨hx, hb, hml, hown, hts⟩ (f_X9_has l G cI cJ cZ cB cQ _ r110 v113) ⟨va_cnB (host := "WidowRoads") 2 hts (gW w_527) rfl rfl rfl (nz_nw hZ nw_752 rfl) (hts _ w_1) hd_X9_has ⟨Nat.le_of_ble_eq_true rfl, Nat.le_of_ble_eq_true rfl⟩, (hts _ w_526), trivial⟩ (mS hK hZ hP hD [] rfl rfl [.long r110, .int v113]) rfl rfl hl.1 rfl (lv_room (Nat.le_of_ble_eq_true rfl)) dX3_cuts_110 ⟨Nat.le_of_ble_eq_true rfl, Nat.le_of_ble_eq_true rfl⟩) (fun r114 u115 H locs hw116 hP hD hS => ?_)
              try dsimp only at hw116
              have hP : va_P G vwCl [(h0, oX3 z0 o_cells v104 v109)] H := hP
              have hD : va_D A [(h0, oX3 z0 o_cells v104 v109)] := hD
              obtain ⟨w117, w118⟩ : 0 ≤ r114.toInt ∧ r114.toInt ≤ 1 := hw116
              refine lv_if_ne (tgt := 120) hx hb dX3_cuts_113 (by decide) (fun c119 => ?_) (fun c119 => ?_)
              · have c119 := i_ne rfl ki_0 c119
                refine lv_iconst (v := 0) hx hb dX3_cuts_120 (by decide) ?_
                refine k_i (wc := []) (wr := [(h0, oX3 z0 o_cells v104 v109)]) hP hD hS hA [] [0] rfl rfl rfl (by decide) (va_runSN (As := [.int 0]) (rest := [.int v103]) ⟨hx, hb, hml, hown, hts⟩ (f_X9_oneIf l G cI cJ cZ cB cQ _ 0) ⟨va_cnB (host := "WidowRoads") 1 hts (gW w_663) rfl rfl rfl (nz_nw hZ nw_786 rfl) (hts _ w_1) hd_X9_oneIf ⟨Nat.le_of_ble_eq_true rfl, Nat.le_of_ble_eq_true rfl⟩, (hts _ w_662), trivial⟩ (mS hK hZ hP hD [] rfl rfl [.int 0]) rfl rfl hl.1 rfl (lv_room (Nat.le_of_ble_eq_true rfl)) dX3_cuts_121 ⟨Nat.le_of_ble_eq_true rfl, Nat.le_of_ble_eq_true rfl⟩) (fun r120 u121 H locs hw122 hP hD hS => ?_)
                try dsimp only at hw122
                have hP : va_P G vwCl [(h0, oX3 z0 o_cells v104 v109)] H := hP
                have hD : va_D A [(h0, oX3 z0 o_cells v104 v109)] := hD
                obtain ⟨w123, w124⟩ : 0 ≤ r120.toInt ∧ r120.toInt ≤ 1 := hw122
                refine lv_iadd hx hb dX3_cuts_124 ?_
                refine lv_topi (fun v125 ev125 => ?_)
                refine lv_istore_n (lv' := [(1, .int v125), (3, .long r12), (2, .int x4), (0, .ref h0)]) hx hb dX3_cuts_125 rfl hl (by decide) rfl (fun ls hl => ?_)
                refine lv_aload_n hx hb dX3_cuts_126 rfl (lv_at hl 3 rfl) ?_
                refine lv_dup hx hb dX3_cuts_127 rfl ?_
                refine va_get (D := G) (ci := 3) (v := .long v109) (C := RX3) (T := TX3) (N := 3) hx hb hts iG_X3 hown hK hP 0 rfl rfl 2 (by decide) (hts _ w_308) (fun _ h9 => h9) rfl dX3_cuts_128 ?_
                refine lv_lload_n hx hb dX3_cuts_131 rfl (lv_at hl 1 rfl) ?_
                refine lv_lor hx hb dX3_cuts_132 ?_
                refine lv_topl (fun v126 ev126 => ?_)
                refine va_put (D := G) (ci := 3) (v := .long v126) (ty := .long) (C := RX3) (T := TX3) (N := 3) hx hb hts iG_X3 tyX3 tyX3_ok nmX3 hown hK hP hD hS 0 rfl rfl 2 (by decide) (hts _ w_308) (fun _ h9 => h9) rfl (by decide +kernel) rfl rfl (Nat.le_of_ble_eq_true rfl) dX3_cuts_133 (fun H locs hP hD hS => ?_)
                have hP : va_P G vwCl [(h0, oX3 z0 o_cells v104 v126)] H := hP
                have hD : va_D A [(h0, oX3 z0 o_cells v104 v126)] := hD
                obtain ⟨v127, ev127⟩ : ∃ y : Int32, y = x4 + 1 := ⟨_, rfl⟩
                have tv127 : v127.toInt = x4.toInt + 1 := ti_add rfl ki_1 ev127 (by omega) (by omega)
                refine lv_iinc (v := v127) (lv' := [(2, .int v127), (1, .int v125), (3, .long r12), (0, .ref h0)]) hx hb dX3_cuts_136 hl (k := 2) rfl (by rw [ev127]; rfl) (by decide) rfl (fun ls hl => ?_)
                refine lv_goto (tgt := 4) hx hb dX3_cuts_139 (by decide) ?_
                exact ih9 v125 v127 v104 v126 (by omega) (by omega) (by omega) _ _ hP hD hS ls (lv_sub hl [0, 1, 3] rfl)
              · have c119 := i_eq rfl ki_0 c119
                refine lv_iconst (v := 1) hx hb dX3_cuts_116 (by decide) ?_
                refine lv_goto (tgt := 121) hx hb dX3_cuts_117 (by decide) ?_
                refine k_i (wc := []) (wr := [(h0, oX3 z0 o_cells v104 v109)]) hP hD hS hA [] [0] rfl rfl rfl (by decide) (va_runSN (As := [.int 1]) (rest := [.int v103]) ⟨hx, hb, hml, hown, hts⟩ (f_X9_oneIf l G cI cJ cZ cB cQ _ 1) ⟨va_cnB (host := "WidowRoads") 1 hts (gW w_663) rfl rfl rfl (nz_nw hZ nw_786 rfl) (hts _ w_1) hd_X9_oneIf ⟨Nat.le_of_ble_eq_true rfl, Nat.le_of_ble_eq_true rfl⟩, (hts _ w_662), trivial⟩ (mS hK hZ hP hD [] rfl rfl [.int 1]) rfl rfl hl.1 rfl (lv_room (Nat.le_of_ble_eq_true rfl)) dX3_cuts_121 ⟨Nat.le_of_ble_eq_true rfl, Nat.le_of_ble_eq_true rfl⟩) (fun r128 u129 H locs hw130 hP hD hS => ?_)
                try dsimp only at hw130
                have hP : va_P G vwCl [(h0, oX3 z0 o_cells v104 v109)] H := hP
                have hD : va_D A [(h0, oX3 z0 o_cells v104 v109)] := hD
                obtain ⟨w131, w132⟩ : 0 ≤ r128.toInt ∧ r128.toInt ≤ 1 := hw130
                refine lv_iadd hx hb dX3_cuts_124 ?_
                refine lv_topi (fun v133 ev133 => ?_)
                refine lv_istore_n (lv' := [(1, .int v133), (3, .long r12), (2, .int x4), (0, .ref h0)]) hx hb dX3_cuts_125 rfl hl (by decide) rfl (fun ls hl => ?_)
                refine lv_aload_n hx hb dX3_cuts_126 rfl (lv_at hl 3 rfl) ?_
                refine lv_dup hx hb dX3_cuts_127 rfl ?_
                refine va_get (D := G) (ci := 3) (v := .long v109) (C := RX3) (T := TX3) (N := 3) hx hb hts iG_X3 hown hK hP 0 rfl rfl 2 (by decide) (hts _ w_308) (fun _ h9 => h9) rfl dX3_cuts_128 ?_
                refine lv_lload_n hx hb dX3_cuts_131 rfl (lv_at hl 1 rfl) ?_
                refine lv_lor hx hb dX3_cuts_132 ?_
                refine lv_topl (fun v134 ev134 => ?_)
                refine va_put (D := G) (ci := 3) (v := .long v134) (ty := .long) (C := RX3) (T := TX3) (N := 3) hx hb hts iG_X3 tyX3 tyX3_ok nmX3 hown hK hP hD hS 0 rfl rfl 2 (by decide) (hts _ w_308) (fun _ h9 => h9) rfl (by decide +kernel) rfl rfl (Nat.le_of_ble_eq_true rfl) dX3_cuts_133 (fun H locs hP hD hS => ?_)
                have hP : va_P G vwCl [(h0, oX3 z0 o_cells v104 v134)] H := hP
                have hD : va_D A [(h0, oX3 z0 o_cells v104 v134)] := hD
                obtain ⟨v135, ev135⟩ : ∃ y : Int32, y = x4 + 1 := ⟨_, rfl⟩
                have tv135 : v135.toInt = x4.toInt + 1 := ti_add rfl ki_1 ev135 (by omega) (by omega)
                refine lv_iinc (v := v135) (lv' := [(2, .int v135), (1, .int v133), (3, .long r12), (0, .ref h0)]) hx hb dX3_cuts_136 hl (k := 2) rfl (by rw [ev135]; rfl) (by decide) rfl (fun ls hl => ?_)
                refine lv_goto (tgt := 4) hx hb dX3_cuts_139 (by decide) ?_
                exact ih9 v133 v135 v104 v134 (by omega) (by omega) (by omega) _ _ hP hD hS ls (lv_sub hl [0, 1, 3] rfl)
  exact lp1 65 0 0 o_across o_down (by rw [ki_0]; decide) (by rw [ki_0]; decide) (by rw [ki_0]; decide) _ _ hP hD hS ls (lv_sub hl [0, 1, 2] rfl)
set_option maxHeartbeats 4000000 in
set_option maxRecDepth 100000 in
theorem f_X3_longestRow (l : Launch) (G : va_G) (cI cJ cZ cB cQ : ClassId) (sz : Nat) (h0 : Nat) (o_cells : Int64) (o_across : Int64) (o_down : Int64) : CI l yX3_longestRow (wl_ yX3_longestRow cX3_longestRow 7 (some .int)) ({ frames := 0, cells := 0, slots := 0, locals := 0 } : Room) G (TY cI cJ cZ cB cQ) [.ref h0] [(h0, oX3 z0 o_cells o_across o_down)] sz (fun (r : Int32) (u : Unit) => True) (fun _ : Unit => [(h0, oX3 z0 o_cells o_across o_down)]) 0 0 := by
  refine CI.go (cc := cX3_longestRow) (maxL := 7) (ret := (some .int)) (by decide) rfl (Nat.le_of_ble_eq_true rfl) ?_
  intro p e s m below meth c A ls Q hBd hret
  obtain ⟨hx, hb, hr, hml, hts, hown, hlk, hnm, hP, hK, hD, hA, hZ, hl⟩ := hBd
  have hown : s.vm.findClass RX3 = some m.cls := hown
  have hl : lv_has ls 7 [(0, .ref h0)] := hl
  have hS : va_S A s.heap s.heap [] := va_S.rf
  refine lv_iconst (v := 0) hx hb dX3_longestRow_0 (by decide) ?_
  refine lv_istore_n (lv' := [(1, .int 0), (0, .ref h0)]) hx hb dX3_longestRow_1 rfl hl (by decide) rfl (fun ls hl => ?_)
  refine lv_aload_n hx hb dX3_longestRow_2 rfl (lv_at hl 1 rfl) ?_
  refine va_get (D := G) (ci := 3) (v := .long o_across) (C := RX3) (T := TX3) (N := 3) hx hb hts iG_X3 hown hK hP 0 rfl rfl 1 (by decide) (hts _ w_307) (fun _ h9 => h9) rfl dX3_longestRow_3 ?_
  refine lv_lstore_n (lv' := [(2, .long o_across), (1, .int 0), (0, .ref h0)]) hx hb dX3_longestRow_6 rfl hl (by decide) rfl (fun ls hl => ?_)
  refine lv_aload_n hx hb dX3_longestRow_7 rfl (lv_at hl 2 rfl) ?_
  refine va_get (D := G) (ci := 3) (v := .long o_down) (C := RX3) (T := TX3) (N := 3) hx hb hts iG_X3 hown hK hP 0 rfl rfl 2 (by decide) (hts _ w_308) (fun _ h9 => h9) rfl dX3_longestRow_8 ?_
  refine lv_lstore (lv' := [(4, .long o_down), (2, .long o_across), (1, .int 0), (0, .ref h0)]) hx hb dX3_longestRow_11 hl (by decide) rfl (fun ls hl => ?_)
  refine lv_iconst (v := 0) hx hb dX3_longestRow_13 (by decide) ?_
  refine lv_istore (lv' := [(6, .int 0), (4, .long o_down), (2, .long o_across), (1, .int 0), (0, .ref h0)]) hx hb dX3_longestRow_14 hl (by decide) rfl (fun ls hl => ?_)
  have lp1 : ∀ (n2 : Nat) (x3 : Int32) (x4 : Int32) (y5 : Int64) (y6 : Int64), 0 ≤ x4.toInt → x4.toInt ≤ 8 → 8 - x4.toInt < (n2 : Int) → ∀ (H : Heap) (locs : List Loc), va_P G vwCl [(h0, oX3 z0 o_cells o_across o_down)] H → va_D A [(h0, oX3 z0 o_cells o_across o_down)] → va_S A s.heap H locs → ∀ (ls : Array Slot), lv_has ls 7 [(6, .int x4), (4, .long y6), (2, .long y5), (1, .int x3), (0, .ref h0)] → W p l e ({ frames := 0, cells := 0, slots := 0, locals := 0 } : Room) s m ([.ref h0] : List Value).toArray below meth c H locs 0 0 Q (F0 m 16 ls []) := by
    intro n2
    induction n2 with
    | zero =>
      intro x3 x4 y5 y6 k7 k8 mm10
      exact absurd mm10 (by have q9 := fb_rng x4; omega)
    | succ n2 ih9 =>
      intro x3 x4 y5 y6 k7 k8 mm10 H locs hP hD hS ls hl
      refine lv_iload hx hb dX3_longestRow_16 (lv_at hl 0 rfl) ?_
      refine lv_bipush (v := 8) hx hb dX3_longestRow_18 (by decide) ?_
      refine lv_icmp_ge (tgt := 57) hx hb dX3_longestRow_20 (by decide) (fun c11 => ?_) (fun c11 => ?_)
      · have c11 := i_le ki_8 rfl c11
        refine lv_iload_n hx hb dX3_longestRow_57 rfl (lv_at hl 3 rfl) ?_
        exact hret _ _ _ _ x3 () hP hD hS dX3_longestRow_58 trivial
      · have c11 := i_nle ki_8 rfl c11
        refine lv_lload_n hx hb dX3_longestRow_23 rfl (lv_at hl 2 rfl) ?_
        refine lv_lload hx hb dX3_longestRow_24 (lv_at hl 1 rfl) ?_
        refine lv_lor hx hb dX3_longestRow_26 ?_
        refine lv_topl (fun v12 ev12 => ?_)
        refine lv_lconst (v := 0) hx hb dX3_longestRow_27 (by decide) ?_
        refine W.lcmp hx hb dX3_longestRow_28 ?_
        refine lv_if_eq (tgt := 57) hx hb dX3_longestRow_29 (by decide) (fun c13 => ?_) (fun c13 => ?_)
        · have c13 := c_eq rfl kl_0 c13
          refine lv_iload_n hx hb dX3_longestRow_57 rfl (lv_at hl 3 rfl) ?_
          exact hret _ _ _ _ x3 () hP hD hS dX3_longestRow_58 trivial
        · have c13 := c_neq rfl kl_0 c13
          obtain ⟨v14, ev14⟩ : ∃ y : Int32, y = x3 + 1 := ⟨_, rfl⟩
          refine lv_iinc (v := v14) (lv' := [(1, .int v14), (6, .int x4), (4, .long y6), (2, .long y5), (0, .ref h0)]) hx hb dX3_longestRow_32 hl (k := 3) rfl (by rw [ev14]; rfl) (by decide) rfl (fun ls hl => ?_)
          refine lv_lload_n hx hb dX3_longestRow_35 rfl (lv_at hl 3 rfl) ?_
          refine lv_lload_n hx hb dX3_longestRow_36 rfl (lv_at hl 3 rfl) ?_
          refine lv_bipush (v := 8) hx hb dX3_longestRow_37 (by decide) ?_
          refine lv_lushr hx hb dX3_longestRow_39 rfl ?_
          refine lv_topl (fun v15 ev15 => ?_)
          refine lv_land hx hb dX3_longestRow_40 ?_
          refine lv_topl (fun v16 ev16 => ?_)
          refine lv_lstore_n (lv' := [(2, .long v16), (1, .int v14), (6, .int x4), (4, .long y6), (0, .ref h0)]) hx hb dX3_longestRow_41 rfl hl (by decide) rfl (fun ls hl => ?_)
          refine lv_lload hx hb dX3_longestRow_42 (lv_at hl 3 rfl) ?_
          refine lv_lload hx hb dX3_longestRow_44 (lv_at hl 3 rfl) ?_
          refine lv_iconst (v := 1) hx hb dX3_longestRow_46 (by decide) ?_
          refine lv_lushr hx hb dX3_longestRow_47 rfl ?_
          refine lv_topl (fun v17 ev17 => ?_)
          refine lv_land hx hb dX3_longestRow_48 ?_
          refine lv_topl (fun v18 ev18 => ?_)
          refine lv_lstore (lv' := [(4, .long v18), (2, .long v16), (1, .int v14), (6, .int x4), (0, .ref h0)]) hx hb dX3_longestRow_49 hl (by decide) rfl (fun ls hl => ?_)
          obtain ⟨v19, ev19⟩ : ∃ y : Int32, y = x4 + 1 := ⟨_, rfl⟩
          have tv19 : v19.toInt = x4.toInt + 1 := ti_add rfl ki_1 ev19 (by omega) (by omega)
          refine lv_iinc (v := v19) (lv' := [(6, .int v19), (4, .long v18), (2, .long v16), (1, .int v14), (0, .ref h0)]) hx hb dX3_longestRow_51 hl (k := 3) rfl (by rw [ev19]; rfl) (by decide) rfl (fun ls hl => ?_)
          refine lv_goto (tgt := 16) hx hb dX3_longestRow_54 (by decide) ?_
          exact ih9 v14 v19 v16 v18 (by omega) (by omega) (by omega) _ _ hP hD hS ls (lv_sub hl [0, 1, 2, 3, 4] rfl)
  exact lp1 9 0 0 o_across o_down (by rw [ki_0]; decide) (by rw [ki_0]; decide) (by rw [ki_0]; decide) _ _ hP hD hS ls (lv_sub hl [0, 1, 2, 3, 4] rfl)
set_option maxHeartbeats 4000000 in
set_option maxRecDepth 100000 in
theorem f_X2_reduce (l : Launch) (G : va_G) (cI cJ cZ cB cQ : ClassId) (sz : Nat) (h0 : Nat) (p0 : Int64) (p1 : Int64) (o_above : Int64) (o_below : Int64) : CV l yX2_reduce (wl_ yX2_reduce cX2_reduce 12 none) ({ frames := 1, cells := 0, slots := 0, locals := 19 } : Room) G (TY cI cJ cZ cB cQ) [.ref h0, .long p0, .long p1] [(h0, oX2 z0 o_above o_below)] sz (fun (u : Int64 × Int64) => True) (fun u : Int64 × Int64 => [(h0, oX2 z0 u.1 u.2)]) 0 0 := by
  refine CV.go (cc := cX2_reduce) (maxL := 12) (ret := none) (by decide) rfl (Nat.le_of_ble_eq_true rfl) ?_
  intro p e s m below meth c A ls Q hBd hret
  obtain ⟨hx, hb, hr, hml, hts, hown, hlk, hnm, hP, hK, hD, hA, hZ, hl⟩ := hBd
  have hown : s.vm.findClass RX2 = some m.cls := hown
  have hl : lv_has ls 12 [(0, .ref h0), (1, .long p0), (3, .long p1)] := hl
  have hS : va_S A s.heap s.heap [] := va_S.rf
  refine lv_lload_n hx hb dX2_reduce_0 rfl (lv_at hl 1 rfl) ?_
  refine va_mabs_long hx hb (by rw [hml]; exact hl.1.symm) hown (hts _ w_1038) (hts _ w_1039) (hts _ w_16) (hts _ w_1040) (Nat.le_of_ble_eq_true rfl) (Nat.le_of_ble_eq_true rfl) (Nat.le_of_ble_eq_true rfl) (Nat.le_of_ble_eq_true rfl) dX2_reduce_1 ?_
  refine lv_topl (fun v1 ev1 => ?_)
  refine lv_lstore (lv' := [(5, .long v1), (0, .ref h0), (1, .long p0), (3, .long p1)]) hx hb dX2_reduce_4 hl (by decide) rfl (fun ls hl => ?_)
  refine lv_lload_n hx hb dX2_reduce_6 rfl (lv_at hl 3 rfl) ?_
  refine lv_lstore (lv' := [(7, .long p1), (5, .long v1), (0, .ref h0), (1, .long p0), (3, .long p1)]) hx hb dX2_reduce_7 hl (by decide) rfl (fun ls hl => ?_)
  refine lv_iconst (v := 0) hx hb dX2_reduce_9 (by decide) ?_
  refine lv_istore (lv' := [(9, .int 0), (7, .long p1), (5, .long v1), (0, .ref h0), (1, .long p0), (3, .long p1)]) hx hb dX2_reduce_10 hl (by decide) rfl (fun ls hl => ?_)
  have lp2 : ∀ (n3 : Nat) (x4 : Int32) (y5 : Int64) (y6 : Int64), 0 ≤ x4.toInt → x4.toInt ≤ 100 → 100 - x4.toInt < (n3 : Int) → ∀ (H : Heap) (locs : List Loc), va_P G vwCl [(h0, oX2 z0 o_above o_below)] H → va_D A [(h0, oX2 z0 o_above o_below)] → va_S A s.heap H locs → ∀ (ls : Array Slot), lv_has ls 12 [(9, .int x4), (7, .long y6), (5, .long y5), (0, .ref h0), (1, .long p0), (3, .long p1)] → W p l e ({ frames := 1, cells := 0, slots := 0, locals := 19 } : Room) s m ([.ref h0, .long p0, .long p1] : List Value).toArray below meth c H locs 0 0 Q (F0 m 12 ls []) := by
    intro n3
    induction n3 with
    | zero =>
      intro x4 y5 y6 k7 k8 mm10
      exact absurd mm10 (by have q9 := fb_rng x4; omega)
    | succ n3 ih9 =>
      intro x4 y5 y6 k7 k8 mm10 H locs hP hD hS ls hl
      refine lv_iload hx hb dX2_reduce_12 (lv_at hl 0 rfl) ?_
      refine lv_bipush (v := 100) hx hb dX2_reduce_14 (by decide) ?_
      refine lv_icmp_ge (tgt := 47) hx hb dX2_reduce_16 (by decide) (fun c11 => ?_) (fun c11 => ?_)
      · have c11 := i_le ki_100 rfl c11
        refine lv_aload_n hx hb dX2_reduce_47 rfl (lv_at hl 3 rfl) ?_
        refine lv_lload hx hb dX2_reduce_48 (lv_at hl 2 rfl) ?_
        refine lv_lconst (v := 0) hx hb dX2_reduce_50 (by decide) ?_
        refine W.lcmp hx hb dX2_reduce_51 ?_
        refine lv_if_ne (tgt := 59) hx hb dX2_reduce_52 (by decide) (fun c12 => ?_) (fun c12 => ?_)
        · have c12 := c_ne rfl kl_0 c12
          refine lv_lload_n hx hb dX2_reduce_59 rfl (lv_at hl 4 rfl) ?_
          refine lv_lload hx hb dX2_reduce_60 (lv_at hl 2 rfl) ?_
          refine lv_ldiv hx hb dX2_reduce_62 (fun q => absurd (l_eq rfl kl_0 q) (by omega)) ?_
          refine lv_topl (fun v13 ev13 => ?_)
          refine va_put (D := G) (ci := 2) (v := .long v13) (ty := .long) (C := RX2) (T := TX2) (N := 2) hx hb hts iG_X2 tyX2 tyX2_ok nmX2 hown hK hP hD hS 0 rfl rfl 0 (by decide) (hts _ w_344) (fun _ h9 => h9) rfl (by decide +kernel) rfl rfl (Nat.le_of_ble_eq_true rfl) dX2_reduce_63 (fun H locs hP hD hS => ?_)
          have hP : va_P G vwCl [(h0, oX2 z0 v13 o_below)] H := hP
          have hD : va_D A [(h0, oX2 z0 v13 o_below)] := hD
          refine lv_aload_n hx hb dX2_reduce_66 rfl (lv_at hl 3 rfl) ?_
          refine lv_lload hx hb dX2_reduce_67 (lv_at hl 2 rfl) ?_
          refine lv_lconst (v := 0) hx hb dX2_reduce_69 (by decide) ?_
          refine W.lcmp hx hb dX2_reduce_70 ?_
          refine lv_if_ne (tgt := 78) hx hb dX2_reduce_71 (by decide) (fun c14 => ?_) (fun c14 => ?_)
          · have c14 := c_ne rfl kl_0 c14
            refine lv_lload_n hx hb dX2_reduce_78 rfl (lv_at hl 5 rfl) ?_
            refine lv_lload hx hb dX2_reduce_79 (lv_at hl 2 rfl) ?_
            refine lv_ldiv hx hb dX2_reduce_81 (fun q => absurd (l_eq rfl kl_0 q) (by omega)) ?_
            refine lv_topl (fun v15 ev15 => ?_)
            refine va_put (D := G) (ci := 2) (v := .long v15) (ty := .long) (C := RX2) (T := TX2) (N := 2) hx hb hts iG_X2 tyX2 tyX2_ok nmX2 hown hK hP hD hS 0 rfl rfl 1 (by decide) (hts _ w_345) (fun _ h9 => h9) rfl (by decide +kernel) rfl rfl (Nat.le_of_ble_eq_true rfl) dX2_reduce_82 (fun H locs hP hD hS => ?_)
            have hP : va_P G vwCl [(h0, oX2 z0 v13 v15)] H := hP
            have hD : va_D A [(h0, oX2 z0 v13 v15)] := hD
            exact hret _ _ _ _ (v13, v15) hP hD hS dX2_reduce_85 trivial
          · have c14 := c_nne rfl kl_0 c14
            refine lv_lconst (v := 1) hx hb dX2_reduce_74 (by decide) ?_
            refine lv_goto (tgt := 82) hx hb dX2_reduce_75 (by decide) ?_
            refine va_put (D := G) (ci := 2) (v := .long 1) (ty := .long) (C := RX2) (T := TX2) (N := 2) hx hb hts iG_X2 tyX2 tyX2_ok nmX2 hown hK hP hD hS 0 rfl rfl 1 (by decide) (hts _ w_345) (fun _ h9 => h9) rfl (by decide +kernel) rfl rfl (Nat.le_of_ble_eq_true rfl) dX2_reduce_82 (fun H locs hP hD hS => ?_)
            have hP : va_P G vwCl [(h0, oX2 z0 v13 1)] H := hP
            have hD : va_D A [(h0, oX2 z0 v13 1)] := hD
            exact hret _ _ _ _ (v13, 1) hP hD hS dX2_reduce_85 trivial
        · have c12 := c_nne rfl kl_0 c12
          refine lv_lconst (v := 0) hx hb dX2_reduce_55 (by decide) ?_
          refine lv_goto (tgt := 63) hx hb dX2_reduce_56 (by decide) ?_
          refine va_put (D := G) (ci := 2) (v := .long 0) (ty := .long) (C := RX2) (T := TX2) (N := 2) hx hb hts iG_X2 tyX2 tyX2_ok nmX2 hown hK hP hD hS 0 rfl rfl 0 (by decide) (hts _ w_344) (fun _ h9 => h9) rfl (by decide +kernel) rfl rfl (Nat.le_of_ble_eq_true rfl) dX2_reduce_63 (fun H locs hP hD hS => ?_)
          have hP : va_P G vwCl [(h0, oX2 z0 0 o_below)] H := hP
          have hD : va_D A [(h0, oX2 z0 0 o_below)] := hD
          refine lv_aload_n hx hb dX2_reduce_66 rfl (lv_at hl 3 rfl) ?_
          refine lv_lload hx hb dX2_reduce_67 (lv_at hl 2 rfl) ?_
          refine lv_lconst (v := 0) hx hb dX2_reduce_69 (by decide) ?_
          refine W.lcmp hx hb dX2_reduce_70 ?_
          refine lv_if_ne (tgt := 78) hx hb dX2_reduce_71 (by decide) (fun c16 => ?_) (fun c16 => ?_)
          · have c16 := c_ne rfl kl_0 c16
            refine lv_lload_n hx hb dX2_reduce_78 rfl (lv_at hl 5 rfl) ?_
            refine lv_lload hx hb dX2_reduce_79 (lv_at hl 2 rfl) ?_
            refine lv_ldiv hx hb dX2_reduce_81 (ne0l rfl (by omega)) ?_
            refine lv_topl (fun v17 ev17 => ?_)
            refine va_put (D := G) (ci := 2) (v := .long v17) (ty := .long) (C := RX2) (T := TX2) (N := 2) hx hb hts iG_X2 tyX2 tyX2_ok nmX2 hown hK hP hD hS 0 rfl rfl 1 (by decide) (hts _ w_345) (fun _ h9 => h9) rfl (by decide +kernel) rfl rfl (Nat.le_of_ble_eq_true rfl) dX2_reduce_82 (fun H locs hP hD hS => ?_)
            have hP : va_P G vwCl [(h0, oX2 z0 0 v17)] H := hP
            have hD : va_D A [(h0, oX2 z0 0 v17)] := hD
            exact hret _ _ _ _ (0, v17) hP hD hS dX2_reduce_85 trivial
          · have c16 := c_nne rfl kl_0 c16
            refine lv_lconst (v := 1) hx hb dX2_reduce_74 (by decide) ?_
            refine lv_goto (tgt := 82) hx hb dX2_reduce_75 (by decide) ?_
            refine va_put (D := G) (ci := 2) (v := .long 1) (ty := .long) (C := RX2) (T := TX2) (N := 2) hx hb hts iG_X2 tyX2 tyX2_ok nmX2 hown hK hP hD hS 0 rfl rfl 1 (by decide) (hts _ w_345) (fun _ h9 => h9) rfl (by decide +kernel) rfl rfl (Nat.le_of_ble_eq_true rfl) dX2_reduce_82 (fun H locs hP hD hS => ?_)
            have hP : va_P G vwCl [(h0, oX2 z0 0 1)] H := hP
            have hD : va_D A [(h0, oX2 z0 0 1)] := hD
            exact hret _ _ _ _ (0, 1) hP hD hS dX2_reduce_85 trivial
      · have c11 := i_nle ki_100 rfl c11
        refine lv_lload hx hb dX2_reduce_19 (lv_at hl 1 rfl) ?_
        refine lv_lconst (v := 0) hx hb dX2_reduce_21 (by decide) ?_
        refine W.lcmp hx hb dX2_reduce_22 ?_
        refine lv_if_eq (tgt := 47) hx hb dX2_reduce_23 (by decide) (fun c18 => ?_) (fun c18 => ?_)
        · have c18 := c_eq rfl kl_0 c18
          refine lv_aload_n hx hb dX2_reduce_47 rfl (lv_at hl 3 rfl) ?_
          refine lv_lload hx hb dX2_reduce_48 (lv_at hl 2 rfl) ?_
          refine lv_lconst (v := 0) hx hb dX2_reduce_50 (by decide) ?_
          refine W.lcmp hx hb dX2_reduce_51 ?_
          refine lv_if_ne (tgt := 59) hx hb dX2_reduce_52 (by decide) (fun c19 => ?_) (fun c19 => ?_)
          · have c19 := c_ne rfl kl_0 c19
            refine lv_lload_n hx hb dX2_reduce_59 rfl (lv_at hl 4 rfl) ?_
            refine lv_lload hx hb dX2_reduce_60 (lv_at hl 2 rfl) ?_
            refine lv_ldiv hx hb dX2_reduce_62 (fun q => absurd (l_eq rfl kl_0 q) (by omega)) ?_
            refine lv_topl (fun v20 ev20 => ?_)
            refine va_put (D := G) (ci := 2) (v := .long v20) (ty := .long) (C := RX2) (T := TX2) (N := 2) hx hb hts iG_X2 tyX2 tyX2_ok nmX2 hown hK hP hD hS 0 rfl rfl 0 (by decide) (hts _ w_344) (fun _ h9 => h9) rfl (by decide +kernel) rfl rfl (Nat.le_of_ble_eq_true rfl) dX2_reduce_63 (fun H locs hP hD hS => ?_)
            have hP : va_P G vwCl [(h0, oX2 z0 v20 o_below)] H := hP
            have hD : va_D A [(h0, oX2 z0 v20 o_below)] := hD
            refine lv_aload_n hx hb dX2_reduce_66 rfl (lv_at hl 3 rfl) ?_
            refine lv_lload hx hb dX2_reduce_67 (lv_at hl 2 rfl) ?_
            refine lv_lconst (v := 0) hx hb dX2_reduce_69 (by decide) ?_
            refine W.lcmp hx hb dX2_reduce_70 ?_
            refine lv_if_ne (tgt := 78) hx hb dX2_reduce_71 (by decide) (fun c21 => ?_) (fun c21 => ?_)
            · have c21 := c_ne rfl kl_0 c21
              refine lv_lload_n hx hb dX2_reduce_78 rfl (lv_at hl 5 rfl) ?_
              refine lv_lload hx hb dX2_reduce_79 (lv_at hl 2 rfl) ?_
              refine lv_ldiv hx hb dX2_reduce_81 (fun q => absurd (l_eq rfl kl_0 q) (by omega)) ?_
              refine lv_topl (fun v22 ev22 => ?_)
              refine va_put (D := G) (ci := 2) (v := .long v22) (ty := .long) (C := RX2) (T := TX2) (N := 2) hx hb hts iG_X2 tyX2 tyX2_ok nmX2 hown hK hP hD hS 0 rfl rfl 1 (by decide) (hts _ w_345) (fun _ h9 => h9) rfl (by decide +kernel) rfl rfl (Nat.le_of_ble_eq_true rfl) dX2_reduce_82 (fun H locs hP hD hS => ?_)
              have hP : va_P G vwCl [(h0, oX2 z0 v20 v22)] H := hP
              have hD : va_D A [(h0, oX2 z0 v20 v22)] := hD
              exact hret _ _ _ _ (v20, v22) hP hD hS dX2_reduce_85 trivial
            · have c21 := c_nne rfl kl_0 c21
              refine lv_lconst (v := 1) hx hb dX2_reduce_74 (by decide) ?_
              refine lv_goto (tgt := 82) hx hb dX2_reduce_75 (by decide) ?_
              refine va_put (D := G) (ci := 2) (v := .long 1) (ty := .long) (C := RX2) (T := TX2) (N := 2) hx hb hts iG_X2 tyX2 tyX2_ok nmX2 hown hK hP hD hS 0 rfl rfl 1 (by decide) (hts _ w_345) (fun _ h9 => h9) rfl (by decide +kernel) rfl rfl (Nat.le_of_ble_eq_true rfl) dX2_reduce_82 (fun H locs hP hD hS => ?_)
              have hP : va_P G vwCl [(h0, oX2 z0 v20 1)] H := hP
              have hD : va_D A [(h0, oX2 z0 v20 1)] := hD
              exact hret _ _ _ _ (v20, 1) hP hD hS dX2_reduce_85 trivial
          · have c19 := c_nne rfl kl_0 c19
            refine lv_lconst (v := 0) hx hb dX2_reduce_55 (by decide) ?_
            refine lv_goto (tgt := 63) hx hb dX2_reduce_56 (by decide) ?_
            refine va_put (D := G) (ci := 2) (v := .long 0) (ty := .long) (C := RX2) (T := TX2) (N := 2) hx hb hts iG_X2 tyX2 tyX2_ok nmX2 hown hK hP hD hS 0 rfl rfl 0 (by decide) (hts _ w_344) (fun _ h9 => h9) rfl (by decide +kernel) rfl rfl (Nat.le_of_ble_eq_true rfl) dX2_reduce_63 (fun H locs hP hD hS => ?_)
            have hP : va_P G vwCl [(h0, oX2 z0 0 o_below)] H := hP
            have hD : va_D A [(h0, oX2 z0 0 o_below)] := hD
            refine lv_aload_n hx hb dX2_reduce_66 rfl (lv_at hl 3 rfl) ?_
            refine lv_lload hx hb dX2_reduce_67 (lv_at hl 2 rfl) ?_
            refine lv_lconst (v := 0) hx hb dX2_reduce_69 (by decide) ?_
            refine W.lcmp hx hb dX2_reduce_70 ?_
            refine lv_if_ne (tgt := 78) hx hb dX2_reduce_71 (by decide) (fun c23 => ?_) (fun c23 => ?_)
            · have c23 := c_ne rfl kl_0 c23
              refine lv_lload_n hx hb dX2_reduce_78 rfl (lv_at hl 5 rfl) ?_
              refine lv_lload hx hb dX2_reduce_79 (lv_at hl 2 rfl) ?_
              refine lv_ldiv hx hb dX2_reduce_81 (ne0l rfl (by omega)) ?_
              refine lv_topl (fun v24 ev24 => ?_)
              refine va_put (D := G) (ci := 2) (v := .long v24) (ty := .long) (C := RX2) (T := TX2) (N := 2) hx hb hts iG_X2 tyX2 tyX2_ok nmX2 hown hK hP hD hS 0 rfl rfl 1 (by decide) (hts _ w_345) (fun _ h9 => h9) rfl (by decide +kernel) rfl rfl (Nat.le_of_ble_eq_true rfl) dX2_reduce_82 (fun H locs hP hD hS => ?_)
              have hP : va_P G vwCl [(h0, oX2 z0 0 v24)] H := hP
              have hD : va_D A [(h0, oX2 z0 0 v24)] := hD
              exact hret _ _ _ _ (0, v24) hP hD hS dX2_reduce_85 trivial
            · have c23 := c_nne rfl kl_0 c23
              refine lv_lconst (v := 1) hx hb dX2_reduce_74 (by decide) ?_
              refine lv_goto (tgt := 82) hx hb dX2_reduce_75 (by decide) ?_
              refine va_put (D := G) (ci := 2) (v := .long 1) (ty := .long) (C := RX2) (T := TX2) (N := 2) hx hb hts iG_X2 tyX2 tyX2_ok nmX2 hown hK hP hD hS 0 rfl rfl 1 (by decide) (hts _ w_345) (fun _ h9 => h9) rfl (by decide +kernel) rfl rfl (Nat.le_of_ble_eq_true rfl) dX2_reduce_82 (fun H locs hP hD hS => ?_)
              have hP : va_P G vwCl [(h0, oX2 z0 0 1)] H := hP
              have hD : va_D A [(h0, oX2 z0 0 1)] := hD
              exact hret _ _ _ _ (0, 1) hP hD hS dX2_reduce_85 trivial
        · have c18 := c_neq rfl kl_0 c18
          refine lv_lload hx hb dX2_reduce_26 (lv_at hl 2 rfl) ?_
          refine lv_lload hx hb dX2_reduce_28 (lv_at hl 1 rfl) ?_
          refine lv_lrem hx hb dX2_reduce_30 (fun q => absurd (l_eq rfl kl_0 q) (by omega)) ?_
          refine lv_topl (fun v25 ev25 => ?_)
          refine lv_lstore (lv' := [(10, .long v25), (9, .int x4), (7, .long y6), (5, .long y5), (0, .ref h0), (1, .long p0), (3, .long p1)]) hx hb dX2_reduce_31 hl (by decide) rfl (fun ls hl => ?_)
          refine lv_lload hx hb dX2_reduce_33 (lv_at hl 2 rfl) ?_
          refine lv_lstore (lv' := [(5, .long y6), (10, .long v25), (9, .int x4), (7, .long y6), (0, .ref h0), (1, .long p0), (3, .long p1)]) hx hb dX2_reduce_35 hl (by decide) rfl (fun ls hl => ?_)
          refine lv_lload hx hb dX2_reduce_37 (lv_at hl 1 rfl) ?_
          refine lv_lstore (lv' := [(7, .long v25), (5, .long y6), (10, .long v25), (9, .int x4), (0, .ref h0), (1, .long p0), (3, .long p1)]) hx hb dX2_reduce_39 hl (by decide) rfl (fun ls hl => ?_)
          obtain ⟨v26, ev26⟩ : ∃ y : Int32, y = x4 + 1 := ⟨_, rfl⟩
          have tv26 : v26.toInt = x4.toInt + 1 := ti_add rfl ki_1 ev26 (by omega) (by omega)
          refine lv_iinc (v := v26) (lv' := [(9, .int v26), (7, .long v25), (5, .long y6), (10, .long v25), (0, .ref h0), (1, .long p0), (3, .long p1)]) hx hb dX2_reduce_41 hl (k := 3) rfl (by rw [ev26]; rfl) (by decide) rfl (fun ls hl => ?_)
          refine lv_goto (tgt := 12) hx hb dX2_reduce_44 (by decide) ?_
          exact ih9 v26 y6 v25 (by omega) (by omega) (by omega) _ _ hP hD hS ls (lv_sub hl [0, 1, 2, 4, 5, 6] rfl)
  exact lp2 101 0 v1 p1 (by rw [ki_0]; decide) (by rw [ki_0]; decide) (by rw [ki_0]; decide) _ _ hP hD hS ls (lv_sub hl [0, 1, 2, 3, 4, 5] rfl)
set_option maxHeartbeats 4000000 in
set_option maxRecDepth 100000 in
theorem f_X2_part (l : Launch) (G : va_G) (cI cJ cZ cB cQ : ClassId) (sz : Nat) (h0 : Nat) (p0 : Int32) (o_above : Int64) (o_below : Int64) : CL l yX2_part (wl_ yX2_part cX2_part 2 (some .long)) ({ frames := 0, cells := 0, slots := 0, locals := 0 } : Room) G (TY cI cJ cZ cB cQ) [.ref h0, .int p0] [(h0, oX2 z0 o_above o_below)] sz (fun (r : Int64) (u : Unit) => True) (fun _ : Unit => [(h0, oX2 z0 o_above o_below)]) 0 0 := by
  refine CL.go (cc := cX2_part) (maxL := 2) (ret := (some .long)) (by decide) rfl (Nat.le_of_ble_eq_true rfl) ?_
  intro p e s m below meth c A ls Q hBd hret
  obtain ⟨hx, hb, hr, hml, hts, hown, hlk, hnm, hP, hK, hD, hA, hZ, hl⟩ := hBd
  have hown : s.vm.findClass RX2 = some m.cls := hown
  have hl : lv_has ls 2 [(0, .ref h0), (1, .int p0)] := hl
  have hS : va_S A s.heap s.heap [] := va_S.rf
  refine lv_iload_n hx hb dX2_part_0 rfl (lv_at hl 1 rfl) ?_
  refine lv_if_ne (tgt := 11) hx hb dX2_part_1 (by decide) (fun c1 => ?_) (fun c1 => ?_)
  · have c1 := i_ne rfl ki_0 c1
    refine lv_aload_n hx hb dX2_part_11 rfl (lv_at hl 0 rfl) ?_
    refine va_get (D := G) (ci := 2) (v := .long o_below) (C := RX2) (T := TX2) (N := 2) hx hb hts iG_X2 hown hK hP 0 rfl rfl 1 (by decide) (hts _ w_345) (fun _ h9 => h9) rfl dX2_part_12 ?_
    exact hret _ _ _ _ o_below () hP hD hS dX2_part_15 trivial
  · have c1 := i_eq rfl ki_0 c1
    refine lv_aload_n hx hb dX2_part_4 rfl (lv_at hl 0 rfl) ?_
    refine va_get (D := G) (ci := 2) (v := .long o_above) (C := RX2) (T := TX2) (N := 2) hx hb hts iG_X2 hown hK hP 0 rfl rfl 0 (by decide) (hts _ w_344) (fun _ h9 => h9) rfl dX2_part_5 ?_
    refine lv_goto (tgt := 15) hx hb dX2_part_8 (by decide) ?_
    exact hret _ _ _ _ o_above () hP hD hS dX2_part_15 trivial
set_option maxHeartbeats 4000000 in
set_option maxRecDepth 100000 in
theorem f_X1_orders (l : Launch) (G : va_G) (cI cJ cZ cB cQ : ClassId) (sz : Nat) (p0 : Int32) (qp0_l : (-70) ≤ p0.toInt) (qp0_h : p0.toInt ≤ 70) : CL l yX1_orders (wl_ yX1_orders cX1_orders 4 (some .long)) ({ frames := 0, cells := 0, slots := 0, locals := 0 } : Room) G (TY cI cJ cZ cB cQ) [.int p0] [] sz (fun (r : Int64) (u : Unit) => True) (fun _ : Unit => []) 0 0 := by
  refine CL.go (cc := cX1_orders) (maxL := 4) (ret := (some .long)) (by decide) rfl (Nat.le_of_ble_eq_true rfl) ?_
  intro p e s m below meth c A ls Q hBd hret
  obtain ⟨hx, hb, hr, hml, hts, hown, hlk, hnm, hP, hK, hD, hA, hZ, hl⟩ := hBd
  have hown : s.vm.findClass RX1 = some m.cls := hown
  have hl : lv_has ls 4 [(0, .int p0)] := hl
  have hS : va_S A s.heap s.heap [] := va_S.rf
  refine lv_lconst (v := 1) hx hb dX1_orders_0 (by decide) ?_
  refine lv_lstore_n (lv' := [(1, .long 1), (0, .int p0)]) hx hb dX1_orders_1 rfl hl (by decide) rfl (fun ls hl => ?_)
  refine lv_iconst (v := 2) hx hb dX1_orders_2 (by decide) ?_
  refine lv_istore_n (lv' := [(3, .int 2), (1, .long 1), (0, .int p0)]) hx hb dX1_orders_3 rfl hl (by decide) rfl (fun ls hl => ?_)
  have lp1 : ∀ (n2 : Nat) (x3 : Int32) (y4 : Int64), 2 ≤ x3.toInt → x3.toInt ≤ 71 → 71 - x3.toInt < (n2 : Int) → ∀ (H : Heap) (locs : List Loc), va_P G vwCl [] H → va_D A [] → va_S A s.heap H locs → ∀ (ls : Array Slot), lv_has ls 4 [(3, .int x3), (1, .long y4), (0, .int p0)] → W p l e ({ frames := 0, cells := 0, slots := 0, locals := 0 } : Room) s m ([.int p0] : List Value).toArray below meth c H locs 0 0 Q (F0 m 4 ls []) := by
    intro n2
    induction n2 with
    | zero =>
      intro x3 y4 k5 k6 mm8
      exact absurd mm8 (by have q9 := fb_rng x3; omega)
    | succ n2 ih7 =>
      intro x3 y4 k5 k6 mm8 H locs hP hD hS ls hl
      refine lv_iload_n hx hb dX1_orders_4 rfl (lv_at hl 0 rfl) ?_
      refine lv_iload_n hx hb dX1_orders_5 rfl (lv_at hl 2 rfl) ?_
      refine lv_icmp_gt (tgt := 20) hx hb dX1_orders_6 (by decide) (fun c9 => ?_) (fun c9 => ?_)
      · have c9 := i_lt rfl rfl c9
        refine lv_lload_n hx hb dX1_orders_20 rfl (lv_at hl 1 rfl) ?_
        exact hret _ _ _ _ y4 () hP hD hS dX1_orders_21 trivial
      · have c9 := i_nlt rfl rfl c9
        refine lv_lload_n hx hb dX1_orders_9 rfl (lv_at hl 1 rfl) ?_
        refine lv_iload_n hx hb dX1_orders_10 rfl (lv_at hl 0 rfl) ?_
        obtain ⟨v10, ev10⟩ : ∃ y : Int64, x3.toInt64 = y := ⟨_, rfl⟩
        have tv10 : v10.toInt = x3.toInt := ti_wide rfl ev10
        refine lv_i2l (v := v10) hx hb dX1_orders_11 ev10 ?_
        refine lv_lmul hx hb dX1_orders_12 ?_
        refine lv_topl (fun v11 ev11 => ?_)
        refine lv_lstore_n (lv' := [(1, .long v11), (3, .int x3), (0, .int p0)]) hx hb dX1_orders_13 rfl hl (by decide) rfl (fun ls hl => ?_)
        obtain ⟨v12, ev12⟩ : ∃ y : Int32, y = x3 + 1 := ⟨_, rfl⟩
        have tv12 : v12.toInt = x3.toInt + 1 := ti_add rfl ki_1 ev12 (by omega) (by omega)
        refine lv_iinc (v := v12) (lv' := [(3, .int v12), (1, .long v11), (0, .int p0)]) hx hb dX1_orders_14 hl (k := 1) rfl (by rw [ev12]; rfl) (by decide) rfl (fun ls hl => ?_)
        refine lv_goto (tgt := 4) hx hb dX1_orders_17 (by decide) ?_
        exact ih7 v12 v11 (by omega) (by omega) (by omega) _ _ hP hD hS ls (lv_sub hl [0, 1, 2] rfl)
  exact lp1 70 2 1 (by rw [ki_2]; decide) (by rw [ki_2]; decide) (by rw [ki_2]; decide) _ _ hP hD hS ls (lv_sub hl [0, 1, 2] rfl)
set_option maxHeartbeats 4000000 in
set_option maxRecDepth 100000 in
theorem f_X1_power (l : Launch) (G : va_G) (cI cJ cZ cB cQ : ClassId) (sz : Nat) (p0 : Int32) (p1 : Int32) (qp1_l : (-70) ≤ p1.toInt) (qp1_h : p1.toInt ≤ 70) : CL l yX1_power (wl_ yX1_power cX1_power 5 (some .long)) ({ frames := 0, cells := 0, slots := 0, locals := 0 } : Room) G (TY cI cJ cZ cB cQ) [.int p0, .int p1] [] sz (fun (r : Int64) (u : Unit) => True) (fun _ : Unit => []) 0 0 := by
  refine CL.go (cc := cX1_power) (maxL := 5) (ret := (some .long)) (by decide) rfl (Nat.le_of_ble_eq_true rfl) ?_
  intro p e s m below meth c A ls Q hBd hret
  obtain ⟨hx, hb, hr, hml, hts, hown, hlk, hnm, hP, hK, hD, hA, hZ, hl⟩ := hBd
  have hown : s.vm.findClass RX1 = some m.cls := hown
  have hl : lv_has ls 5 [(0, .int p0), (1, .int p1)] := hl
  have hS : va_S A s.heap s.heap [] := va_S.rf
  refine lv_lconst (v := 1) hx hb dX1_power_0 (by decide) ?_
  refine lv_lstore_n (lv' := [(2, .long 1), (0, .int p0), (1, .int p1)]) hx hb dX1_power_1 rfl hl (by decide) rfl (fun ls hl => ?_)
  refine lv_iconst (v := 0) hx hb dX1_power_2 (by decide) ?_
  refine lv_istore (lv' := [(4, .int 0), (2, .long 1), (0, .int p0), (1, .int p1)]) hx hb dX1_power_3 hl (by decide) rfl (fun ls hl => ?_)
  have lp1 : ∀ (n2 : Nat) (x3 : Int32) (y4 : Int64), 0 ≤ x3.toInt → x3.toInt ≤ 70 → 70 - x3.toInt < (n2 : Int) → ∀ (H : Heap) (locs : List Loc), va_P G vwCl [] H → va_D A [] → va_S A s.heap H locs → ∀ (ls : Array Slot), lv_has ls 5 [(4, .int x3), (2, .long y4), (0, .int p0), (1, .int p1)] → W p l e ({ frames := 0, cells := 0, slots := 0, locals := 0 } : Room) s m ([.int p0, .int p1] : List Value).toArray below meth c H locs 0 0 Q (F0 m 5 ls []) := by
    intro n2
    induction n2 with
    | zero =>
      intro x3 y4 k5 k6 mm8
      exact absurd mm8 (by have q9 := fb_rng x3; omega)
    | succ n2 ih7 =>
      intro x3 y4 k5 k6 mm8 H locs hP hD hS ls hl
      refine lv_iload hx hb dX1_power_5 (lv_at hl 0 rfl) ?_
      refine lv_iload_n hx hb dX1_power_7 rfl (lv_at hl 3 rfl) ?_
      refine lv_icmp_ge (tgt := 22) hx hb dX1_power_8 (by decide) (fun c9 => ?_) (fun c9 => ?_)
      · have c9 := i_le rfl rfl c9
        refine lv_lload_n hx hb dX1_power_22 rfl (lv_at hl 1 rfl) ?_
        exact hret _ _ _ _ y4 () hP hD hS dX1_power_23 trivial
      · have c9 := i_nle rfl rfl c9
        refine lv_lload_n hx hb dX1_power_11 rfl (lv_at hl 1 rfl) ?_
        refine lv_iload_n hx hb dX1_power_12 rfl (lv_at hl 2 rfl) ?_
        obtain ⟨v10, ev10⟩ : ∃ y : Int64, p0.toInt64 = y := ⟨_, rfl⟩
        have tv10 : v10.toInt = p0.toInt := ti_wide rfl ev10
        refine lv_i2l (v := v10) hx hb dX1_power_13 ev10 ?_
        refine lv_lmul hx hb dX1_power_14 ?_
        refine lv_topl (fun v11 ev11 => ?_)
        refine lv_lstore_n (lv' := [(2, .long v11), (4, .int x3), (0, .int p0), (1, .int p1)]) hx hb dX1_power_15 rfl hl (by decide) rfl (fun ls hl => ?_)
        obtain ⟨v12, ev12⟩ : ∃ y : Int32, y = x3 + 1 := ⟨_, rfl⟩
        have tv12 : v12.toInt = x3.toInt + 1 := ti_add rfl ki_1 ev12 (by omega) (by omega)
        refine lv_iinc (v := v12) (lv' := [(4, .int v12), (2, .long v11), (0, .int p0), (1, .int p1)]) hx hb dX1_power_16 hl (k := 1) rfl (by rw [ev12]; rfl) (by decide) rfl (fun ls hl => ?_)
        refine lv_goto (tgt := 5) hx hb dX1_power_19 (by decide) ?_
        exact ih7 v12 v11 (by omega) (by omega) (by omega) _ _ hP hD hS ls (lv_sub hl [0, 1, 2, 3] rfl)
  exact lp1 71 0 1 (by rw [ki_0]; decide) (by rw [ki_0]; decide) (by rw [ki_0]; decide) _ _ hP hD hS ls (lv_sub hl [0, 1, 2, 3] rfl)
set_option maxHeartbeats 4000000 in
set_option maxRecDepth 100000 in
theorem f_X1_weight (l : Launch) (G : va_G) (cI cJ cZ cB cQ : ClassId) (sz : Nat) (h1 : Nat) (p0 : Int32) (bc : Nat → Nat) (c_lines : Int32) (c_span : Int32) (c_rule : Int32) (c_odds : Int32) (c_wide : Int32) (c_high : Int32) (c_creeks : Int32) (c_houses : Int32) (c_widows : Int32) (c_acts : Int32) (hl_c_span : 0 ≤ c_span.toInt) (hh_c_span : c_span.toInt ≤ 12) (hl_c_rule : 0 ≤ c_rule.toInt) (hh_c_rule : c_rule.toInt ≤ 3) (hl_c_odds : 0 ≤ c_odds.toInt) (hh_c_odds : c_odds.toInt ≤ 10) (hl_c_wide : 0 ≤ c_wide.toInt) (hh_c_wide : c_wide.toInt ≤ 8) (hl_c_high : 0 ≤ c_high.toInt) (hh_c_high : c_high.toInt ≤ 8) (hl_c_creeks : 0 ≤ c_creeks.toInt) (hh_c_creeks : c_creeks.toInt ≤ 12) (hl_c_houses : 0 ≤ c_houses.toInt) (hh_c_houses : c_houses.toInt ≤ 6) (hl_c_widows : 0 ≤ c_widows.toInt) (hh_c_widows : c_widows.toInt ≤ 7) (hl_c_acts : 0 ≤ c_acts.toInt) (hh_c_acts : c_acts.toInt ≤ 30) : CL l yX1_weight (wl_ yX1_weight cX1_weight 3 (some .long)) ({ frames := 1, cells := 0, slots := 0, locals := 24 } : Room) G (TY cI cJ cZ cB cQ) [.ref h1, .int p0] [(h1, oX0 bc c_lines c_span c_rule c_odds c_wide c_high c_creeks c_houses c_widows c_acts)] sz (fun (r : Int64) (u : Unit) => True) (fun _ : Unit => [(h1, oX0 bc c_lines c_span c_rule c_odds c_wide c_high c_creeks c_houses c_widows c_acts)]) 0 0 := by
  refine CL.go (cc := cX1_weight) (maxL := 3) (ret := (some .long)) (by decide) rfl (Nat.le_of_ble_eq_true rfl) ?_
  intro p e s m below meth c A ls Q hBd hret
  obtain ⟨hx, hb, hr, hml, hts, hown, hlk, hnm, hP, hK, hD, hA, hZ, hl⟩ := hBd
  have hown : s.vm.findClass RX1 = some m.cls := hown
  have hl : lv_has ls 3 [(0, .ref h1), (1, .int p0)] := hl
  have hS : va_S A s.heap s.heap [] := va_S.rf
  refine lv_iload_n hx hb dX1_weight_0 rfl (lv_at hl 1 rfl) ?_
  refine k_i (wc := []) (wr := [(h1, oX0 bc c_lines c_span c_rule c_odds c_wide c_high c_creeks c_houses c_widows c_acts)]) hP hD hS hA [] [0] rfl rfl rfl (by decide) (va_runS (As := [.int p0]) (rest := []) ⟨hx, hb, hml, hown, hts⟩ (f_J6_bitCount_0f7a4 l G cI cJ cZ cB cQ _ p0) (va_cwS 1 hts (gS w_1030 w_798 w_19 w_799) rfl rfl rfl hd_J6_bitCount_0f7a4 ⟨Nat.le_of_ble_eq_true rfl, Nat.le_of_ble_eq_true rfl⟩) (mS hK hZ hP hD [] rfl rfl [.int p0]) rfl rfl hl.1 rfl (lv_room (Nat.le_of_ble_eq_true rfl)) dX1_weight_1 ⟨Nat.le_of_ble_eq_true rfl, Nat.le_of_ble_eq_true rfl⟩) (fun r1 u2 H locs hw3 hP hD hS => ?_)
  try dsimp only at hw3
  have hP : va_P G vwCl [(h1, oX0 bc c_lines c_span c_rule c_odds c_wide c_high c_creeks c_houses c_widows c_acts)] H := hP
  have hD : va_D A [(h1, oX0 bc c_lines c_span c_rule c_odds c_wide c_high c_creeks c_houses c_widows c_acts)] := hD
  obtain ⟨w4, w5⟩ : 0 ≤ r1.toInt ∧ r1.toInt ≤ 63 := hw3
  refine lv_istore_n (lv' := [(2, .int r1), (0, .ref h1), (1, .int p0)]) hx hb dX1_weight_4 rfl hl (by decide) rfl (fun ls hl => ?_)
  refine lv_bipush (v := 10) hx hb dX1_weight_5 (by decide) ?_
  refine lv_aload_n hx hb dX1_weight_7 rfl (lv_at hl 1 rfl) ?_
  refine va_getN (D := G) (ci := 0) (v := .int c_odds) (C := RX0) (T := TX0) (N := 19) hx hb hts iG_X0 hown hK hP 0 rfl rfl 3 (by decide) (nz_use hZ nw_69 rfl) (fun _ h9 => h9) rfl dX1_weight_8 ?_
  refine lv_isub hx hb dX1_weight_11 ?_
  refine lv_topi (fun v6 ev6 => ?_)
  have tv6 : v6.toInt = 10 - c_odds.toInt := ti_sub ki_10 rfl ev6 (by omega) (by omega)
  refine lv_iload_n hx hb dX1_weight_12 rfl (lv_at hl 0 rfl) ?_
  refine k_l (wc := []) (wr := [(h1, oX0 bc c_lines c_span c_rule c_odds c_wide c_high c_creeks c_houses c_widows c_acts)]) hP hD hS hA [] [0] rfl rfl rfl (by decide) (va_runS (As := [.int v6, .int r1]) (rest := []) ⟨hx, hb, hml, hown, hts⟩ (f_X1_power l G cI cJ cZ cB cQ _ v6 r1 (by omega) (by omega)) (va_cwS 2 hts (gS w_1082 w_1083 w_7 w_1084) rfl rfl rfl hd_X1_power ⟨Nat.le_of_ble_eq_true rfl, Nat.le_of_ble_eq_true rfl⟩) (mS hK hZ hP hD [] rfl rfl [.int v6, .int r1]) rfl rfl hl.1 rfl (lv_room (Nat.le_of_ble_eq_true rfl)) dX1_weight_13 ⟨Nat.le_of_ble_eq_true rfl, Nat.le_of_ble_eq_true rfl⟩) (fun r7 u8 H locs hw9 hP hD hS => ?_)
  try dsimp only at hw9
  have hP : va_P G vwCl [(h1, oX0 bc c_lines c_span c_rule c_odds c_wide c_high c_creeks c_houses c_widows c_acts)] H := hP
  have hD : va_D A [(h1, oX0 bc c_lines c_span c_rule c_odds c_wide c_high c_creeks c_houses c_widows c_acts)] := hD
  refine lv_aload_n hx hb dX1_weight_16 rfl (lv_at hl 1 rfl) ?_
  refine va_getN (D := G) (ci := 0) (v := .int c_odds) (C := RX0) (T := TX0) (N := 19) hx hb hts iG_X0 hown hK hP 0 rfl rfl 3 (by decide) (nz_use hZ nw_69 rfl) (fun _ h9 => h9) rfl dX1_weight_17 ?_
  refine lv_aload_n hx hb dX1_weight_20 rfl (lv_at hl 1 rfl) ?_
  refine va_getN (D := G) (ci := 0) (v := .int c_widows) (C := RX0) (T := TX0) (N := 19) hx hb hts iG_X0 hown hK hP 0 rfl rfl 8 (by decide) (nz_use hZ nw_84 rfl) (fun _ h9 => h9) rfl dX1_weight_21 ?_
  refine lv_iload_n hx hb dX1_weight_24 rfl (lv_at hl 0 rfl) ?_
  refine lv_isub hx hb dX1_weight_25 ?_
  refine lv_topi (fun v10 ev10 => ?_)
  have tv10 : v10.toInt = c_widows.toInt - r1.toInt := ti_sub rfl rfl ev10 (by omega) (by omega)
  refine k_l (wc := []) (wr := [(h1, oX0 bc c_lines c_span c_rule c_odds c_wide c_high c_creeks c_houses c_widows c_acts)]) hP hD hS hA [] [0] rfl rfl rfl (by decide) (va_runS (As := [.int c_odds, .int v10]) (rest := [.long r7]) ⟨hx, hb, hml, hown, hts⟩ (f_X1_power l G cI cJ cZ cB cQ _ c_odds v10 (by omega) (by omega)) (va_cwS 2 hts (gS w_1082 w_1083 w_7 w_1084) rfl rfl rfl hd_X1_power ⟨Nat.le_of_ble_eq_true rfl, Nat.le_of_ble_eq_true rfl⟩) (mS hK hZ hP hD [] rfl rfl [.int c_odds, .int v10]) rfl rfl hl.1 rfl (lv_room (Nat.le_of_ble_eq_true rfl)) dX1_weight_26 ⟨Nat.le_of_ble_eq_true rfl, Nat.le_of_ble_eq_true rfl⟩) (fun r11 u12 H locs hw13 hP hD hS => ?_)
  try dsimp only at hw13
  have hP : va_P G vwCl [(h1, oX0 bc c_lines c_span c_rule c_odds c_wide c_high c_creeks c_houses c_widows c_acts)] H := hP
  have hD : va_D A [(h1, oX0 bc c_lines c_span c_rule c_odds c_wide c_high c_creeks c_houses c_widows c_acts)] := hD
  refine lv_lmul hx hb dX1_weight_29 ?_
  refine lv_topl (fun v14 ev14 => ?_)
  exact hret _ _ _ _ v14 () hP hD hS dX1_weight_30 trivial
set_option maxHeartbeats 4000000 in
set_option maxRecDepth 100000 in
theorem f_X1_know (l : Launch) (G : va_G) (cI cJ cZ cB cQ : ClassId) (sz : Nat) (h0 : Nat) (h1 : Nat) (h2 : Nat) (h3 : Nat) (b : Nat → Nat) (o_known : Int32) (o_f0 : Nat → Int64) (o_f1 : Nat → Int32) (bc : Nat → Nat) (c_lines : Int32) (c_span : Int32) (c_rule : Int32) (c_odds : Int32) (c_wide : Int32) (c_high : Int32) (c_creeks : Int32) (c_houses : Int32) (c_widows : Int32) (c_acts : Int32) (c_f10 : Nat → Int32) (c_f11 : Nat → Int32) (c_f12 : Nat → Int32) (c_f13 : Nat → Int32) (c_f14 : Nat → Int32) (c_f15 : Nat → Int32) (c_f16 : Nat → Int32) (c_f17 : Nat → Int32) (c_f18 : Nat → Int32) (u_rule : Int32) (u_walkers : Int32) (u_creeks : Int64) (u_widow : Int32) (u_faces : Int32) (u_turn : Int32) (bs : Nat → Nat) (s_field : Int64) (s_houses : Int32) (s_f0 : Nat → Int32) (s_f1 : Nat → Int32) (s_f2 : Nat → Int32) (s_f3 : Nat → Int64) (s_f4 : Nat → Int32) (s_f5 : Nat → Int32) (s_f6 : Nat → Int32) (s_f7 : Nat → Int64) (s_f8 : Nat → Int64) (s_f9 : Nat → Int64) (hl_o_known : 0 ≤ o_known.toInt) (hh_o_known : o_known.toInt ≤ 1) (hl_c_span : 0 ≤ c_span.toInt) (hh_c_span : c_span.toInt ≤ 12) (hl_c_rule : 0 ≤ c_rule.toInt) (hh_c_rule : c_rule.toInt ≤ 3) (hl_c_odds : 0 ≤ c_odds.toInt) (hh_c_odds : c_odds.toInt ≤ 10) (hl_c_wide : 0 ≤ c_wide.toInt) (hh_c_wide : c_wide.toInt ≤ 8) (hl_c_high : 0 ≤ c_high.toInt) (hh_c_high : c_high.toInt ≤ 8) (hl_c_creeks : 0 ≤ c_creeks.toInt) (hh_c_creeks : c_creeks.toInt ≤ 12) (hl_c_houses : 0 ≤ c_houses.toInt) (hh_c_houses : c_houses.toInt ≤ 6) (hl_c_widows : 0 ≤ c_widows.toInt) (hh_c_widows : c_widows.toInt ≤ 7) (hl_c_acts : 0 ≤ c_acts.toInt) (hh_c_acts : c_acts.toInt ≤ 30) (ha_c_f14 : ai c_f14 7 (-2147483648) 40) (ha_c_f16 : ai c_f16 7 (-2147483648) 8) (hl_s_houses : 0 ≤ s_houses.toInt) (hh_s_houses : s_houses.toInt ≤ 6) (ha_s_f1 : ai s_f1 7 (-1) 40) : CV l yX1_know (wl_ yX1_know cX1_know 5 none) ({ frames := 4, cells := 0, slots := 0, locals := 105 } : Room) G (TY cI cJ cZ cB cQ) [.ref h0, .ref h1, .ref h2, .ref h3] [(h0, oX1 b o_known), (b 0, .inl (cJ, 128, .inr (.inl o_f0))), (b 1, .inl (cI, 128, .inl o_f1)), (h1, oX0 bc c_lines c_span c_rule c_odds c_wide c_high c_creeks c_houses c_widows c_acts), (bc 10, .inl (cI, 12, .inl c_f10)), (bc 11, .inl (cI, 6, .inl c_f11)), (bc 12, .inl (cI, 7, .inl c_f12)), (bc 13, .inl (cI, 7, .inl c_f13)), (bc 14, .inl (cI, 7, .inl c_f14)), (bc 15, .inl (cI, 7, .inl c_f15)), (bc 16, .inl (cI, 7, .inl c_f16)), (bc 17, .inl (cI, 56, .inl c_f17)), (bc 18, .inl (cI, 30, .inl c_f18)), (h2, oX7 z0 u_rule u_walkers u_creeks u_widow u_faces u_turn), (h3, oX6 bs s_field s_houses), (bs 0, .inl (cI, 287, .inl s_f0)), (bs 1, .inl (cI, 7, .inl s_f1)), (bs 2, .inl (cI, 7, .inl s_f2)), (bs 3, .inl (cJ, 7, .inr (.inl s_f3))), (bs 4, .inl (cI, 7, .inl s_f4)), (bs 5, .inl (cI, 6, .inl s_f5)), (bs 6, .inl (cI, 78, .inl s_f6)), (bs 7, .inl (cJ, 13, .inr (.inl s_f7))), (bs 8, .inl (cJ, 13, .inr (.inl s_f8))), (bs 9, .inl (cJ, 13, .inr (.inl s_f9)))] sz (fun (u : Int32 × (Nat → Int64) × (Nat → Int32) × Int32 × Int32 × Int64 × Int32 × Int32 × Int32 × Int64 × Int32 × (Nat → Int32) × (Nat → Int32) × (Nat → Int32) × (Nat → Int64) × (Nat → Int32) × (Nat → Int32) × (Nat → Int32) × (Nat → Int64) × (Nat → Int64) × (Nat → Int64)) => 0 ≤ u.1.toInt ∧ u.1.toInt ≤ 1 ∧ 0 ≤ u.2.2.2.2.2.2.2.2.2.2.1.toInt ∧ u.2.2.2.2.2.2.2.2.2.2.1.toInt ≤ 6 ∧ ai u.2.2.2.2.2.2.2.2.2.2.2.2.1 7 (-1) 40) (fun u : Int32 × (Nat → Int64) × (Nat → Int32) × Int32 × Int32 × Int64 × Int32 × Int32 × Int32 × Int64 × Int32 × (Nat → Int32) × (Nat → Int32) × (Nat → Int32) × (Nat → Int64) × (Nat → Int32) × (Nat → Int32) × (Nat → Int32) × (Nat → Int64) × (Nat → Int64) × (Nat → Int64) => [(h0, oX1 b u.1), (b 0, .inl (cJ, 128, .inr (.inl u.2.1))), (b 1, .inl (cI, 128, .inl u.2.2.1)), (h1, oX0 bc c_lines c_span c_rule c_odds c_wide c_high c_creeks c_houses c_widows c_acts), (bc 10, .inl (cI, 12, .inl c_f10)), (bc 11, .inl (cI, 6, .inl c_f11)), (bc 12, .inl (cI, 7, .inl c_f12)), (bc 13, .inl (cI, 7, .inl c_f13)), (bc 14, .inl (cI, 7, .inl c_f14)), (bc 15, .inl (cI, 7, .inl c_f15)), (bc 16, .inl (cI, 7, .inl c_f16)), (bc 17, .inl (cI, 56, .inl c_f17)), (bc 18, .inl (cI, 30, .inl c_f18)), (h2, oX7 z0 u.2.2.2.1 u.2.2.2.2.1 u.2.2.2.2.2.1 u.2.2.2.2.2.2.1 u.2.2.2.2.2.2.2.1 u.2.2.2.2.2.2.2.2.1), (h3, oX6 bs u.2.2.2.2.2.2.2.2.2.1 u.2.2.2.2.2.2.2.2.2.2.1), (bs 0, .inl (cI, 287, .inl u.2.2.2.2.2.2.2.2.2.2.2.1)), (bs 1, .inl (cI, 7, .inl u.2.2.2.2.2.2.2.2.2.2.2.2.1)), (bs 2, .inl (cI, 7, .inl u.2.2.2.2.2.2.2.2.2.2.2.2.2.1)), (bs 3, .inl (cJ, 7, .inr (.inl u.2.2.2.2.2.2.2.2.2.2.2.2.2.2.1))), (bs 4, .inl (cI, 7, .inl u.2.2.2.2.2.2.2.2.2.2.2.2.2.2.2.1)), (bs 5, .inl (cI, 6, .inl u.2.2.2.2.2.2.2.2.2.2.2.2.2.2.2.2.1)), (bs 6, .inl (cI, 78, .inl u.2.2.2.2.2.2.2.2.2.2.2.2.2.2.2.2.2.1)), (bs 7, .inl (cJ, 13, .inr (.inl u.2.2.2.2.2.2.2.2.2.2.2.2.2.2.2.2.2.2.1))), (bs 8, .inl (cJ, 13, .inr (.inl u.2.2.2.2.2.2.2.2.2.2.2.2.2.2.2.2.2.2.2.1))), (bs 9, .inl (cJ, 13, .inr (.inl u.2.2.2.2.2.2.2.2.2.2.2.2.2.2.2.2.2.2.2.2)))]) 0 0 := by
  refine CV.go (cc := cX1_know) (maxL := 5) (ret := none) (by decide) rfl (Nat.le_of_ble_eq_true rfl) ?_
  intro p e s m below meth c A ls Q hBd hret
  obtain ⟨hx, hb, hr, hml, hts, hown, hlk, hnm, hP, hK, hD, hA, hZ, hl⟩ := hBd
  have hown : s.vm.findClass RX1 = some m.cls := hown
  have hl : lv_has ls 5 [(0, .ref h0), (1, .ref h1), (2, .ref h2), (3, .ref h3)] := hl
  have hS : va_S A s.heap s.heap [] := va_S.rf
  refine lv_aload_n hx hb dX1_know_0 rfl (lv_at hl 0 rfl) ?_
  refine va_get (D := G) (ci := 1) (v := .int o_known) (C := RX1) (T := TX1) (N := 3) hx hb hts iG_X1 hown hK hP 0 rfl rfl 2 (by decide) (hts _ w_291) (fun _ h9 => h9) rfl dX1_know_1 ?_
  refine lv_if_eq (tgt := 8) hx hb dX1_know_4 (by decide) (fun c1 => ?_) (fun c1 => ?_)
  · have c1 := i_eq rfl ki_0 c1
    refine lv_iconst (v := 0) hx hb dX1_know_8 (by decide) ?_
    refine lv_istore (lv' := [(4, .int 0), (0, .ref h0), (1, .ref h1), (2, .ref h2), (3, .ref h3)]) hx hb dX1_know_9 hl (by decide) rfl (fun ls hl => ?_)
    have lp2 : ∀ (n3 : Nat) (x4 : Int32) (z5 : Int32) (z6 : Int32) (y7 : Int64) (z8 : Int32) (z9 : Int32) (z10 : Int32) (y11 : Int64) (z12 : Int32) (g13 : Nat → Int64) (g14 : Nat → Int32) (g15 : Nat → Int32) (g16 : Nat → Int32) (g17 : Nat → Int32) (g18 : Nat → Int64) (g19 : Nat → Int32) (g20 : Nat → Int32) (g21 : Nat → Int32) (g22 : Nat → Int64) (g23 : Nat → Int64) (g24 : Nat → Int64), 0 ≤ x4.toInt → x4.toInt ≤ 128 → 0 ≤ z12.toInt → z12.toInt ≤ 6 → ai g16 7 (-1) 40 → 128 - x4.toInt < (n3 : Int) → ∀ (H : Heap) (locs : List Loc), va_P G vwCl [(h0, oX1 b o_known), (b 0, .inl (cJ, 128, .inr (.inl g13))), (b 1, .inl (cI, 128, .inl g14)), (h1, oX0 bc c_lines c_span c_rule c_odds c_wide c_high c_creeks c_houses c_widows c_acts), (bc 10, .inl (cI, 12, .inl c_f10)), (bc 11, .inl (cI, 6, .inl c_f11)), (bc 12, .inl (cI, 7, .inl c_f12)), (bc 13, .inl (cI, 7, .inl c_f13)), (bc 14, .inl (cI, 7, .inl c_f14)), (bc 15, .inl (cI, 7, .inl c_f15)), (bc 16, .inl (cI, 7, .inl c_f16)), (bc 17, .inl (cI, 56, .inl c_f17)), (bc 18, .inl (cI, 30, .inl c_f18)), (h2, oX7 z0 z5 z6 y7 z8 z9 z10), (h3, oX6 bs y11 z12), (bs 0, .inl (cI, 287, .inl g15)), (bs 1, .inl (cI, 7, .inl g16)), (bs 2, .inl (cI, 7, .inl g17)), (bs 3, .inl (cJ, 7, .inr (.inl g18))), (bs 4, .inl (cI, 7, .inl g19)), (bs 5, .inl (cI, 6, .inl g20)), (bs 6, .inl (cI, 78, .inl g21)), (bs 7, .inl (cJ, 13, .inr (.inl g22))), (bs 8, .inl (cJ, 13, .inr (.inl g23))), (bs 9, .inl (cJ, 13, .inr (.inl g24)))] H → va_D A [(h0, oX1 b o_known), (b 0, .inl (cJ, 128, .inr (.inl g13))), (b 1, .inl (cI, 128, .inl g14)), (h1, oX0 bc c_lines c_span c_rule c_odds c_wide c_high c_creeks c_houses c_widows c_acts), (bc 10, .inl (cI, 12, .inl c_f10)), (bc 11, .inl (cI, 6, .inl c_f11)), (bc 12, .inl (cI, 7, .inl c_f12)), (bc 13, .inl (cI, 7, .inl c_f13)), (bc 14, .inl (cI, 7, .inl c_f14)), (bc 15, .inl (cI, 7, .inl c_f15)), (bc 16, .inl (cI, 7, .inl c_f16)), (bc 17, .inl (cI, 56, .inl c_f17)), (bc 18, .inl (cI, 30, .inl c_f18)), (h2, oX7 z0 z5 z6 y7 z8 z9 z10), (h3, oX6 bs y11 z12), (bs 0, .inl (cI, 287, .inl g15)), (bs 1, .inl (cI, 7, .inl g16)), (bs 2, .inl (cI, 7, .inl g17)), (bs 3, .inl (cJ, 7, .inr (.inl g18))), (bs 4, .inl (cI, 7, .inl g19)), (bs 5, .inl (cI, 6, .inl g20)), (bs 6, .inl (cI, 78, .inl g21)), (bs 7, .inl (cJ, 13, .inr (.inl g22))), (bs 8, .inl (cJ, 13, .inr (.inl g23))), (bs 9, .inl (cJ, 13, .inr (.inl g24)))] → va_S A s.heap H locs → ∀ (ls : Array Slot), lv_has ls 5 [(4, .int x4), (0, .ref h0), (1, .ref h1), (2, .ref h2), (3, .ref h3)] → W p l e ({ frames := 4, cells := 0, slots := 0, locals := 105 } : Room) s m ([.ref h0, .ref h1, .ref h2, .ref h3] : List Value).toArray below meth c H locs 0 0 Q (F0 m 11 ls []) := by
      intro n3
      induction n3 with
      | zero =>
        intro x4 z5 z6 y7 z8 z9 z10 y11 z12 g13 g14 g15 g16 g17 g18 g19 g20 g21 g22 g23 g24 k25 k26 k27 k28 k29 mm31
        exact absurd mm31 (by have q9 := fb_rng x4; omega)
      | succ n3 ih30 =>
        intro x4 z5 z6 y7 z8 z9 z10 y11 z12 g13 g14 g15 g16 g17 g18 g19 g20 g21 g22 g23 g24 k25 k26 k27 k28 k29 mm31 H locs hP hD hS ls hl
        refine lv_iload hx hb dX1_know_11 (lv_at hl 0 rfl) ?_
        refine lv_iconst (v := 1) hx hb dX1_know_13 (by decide) ?_
        refine lv_aload_n hx hb dX1_know_14 rfl (lv_at hl 2 rfl) ?_
        refine va_getN (D := G) (ci := 0) (v := .int c_widows) (C := RX0) (T := TX0) (N := 19) hx hb hts iG_X0 hown hK hP 3 rfl rfl 8 (by decide) (nz_use hZ nw_84 rfl) (fun _ h9 => h9) rfl dX1_know_15 ?_
        refine lv_ishl hx hb dX1_know_18 ?_
        refine lv_topi (fun v32 ev32 => ?_)
        obtain ⟨sa33, sb34⟩ : 1 ≤ v32.toInt ∧ v32.toInt ≤ 128 := shl1 7 rfl (by omega) (by omega) (by decide) ev32
        refine lv_icmp_ge (tgt := 81) hx hb dX1_know_19 (by decide) (fun c35 => ?_) (fun c35 => ?_)
        · have c35 := i_le rfl rfl c35
          refine lv_aload_n hx hb dX1_know_81 rfl (lv_at hl 1 rfl) ?_
          refine lv_iconst (v := 1) hx hb dX1_know_82 (by decide) ?_
          refine va_put (D := G) (ci := 1) (v := .int 1) (ty := .boolean) (C := RX1) (T := TX1) (N := 3) hx hb hts iG_X1 tyX1 tyX1_ok nmX1 hown hK hP hD hS 0 rfl rfl 2 (by decide) (hts _ w_291) (fun _ h9 => h9) rfl (by decide +kernel) rfl rfl (Nat.le_of_ble_eq_true rfl) dX1_know_83 (fun H locs hP hD hS => ?_)
          have hP : va_P G vwCl [(h0, oX1 b 1), (b 0, .inl (cJ, 128, .inr (.inl g13))), (b 1, .inl (cI, 128, .inl g14)), (h1, oX0 bc c_lines c_span c_rule c_odds c_wide c_high c_creeks c_houses c_widows c_acts), (bc 10, .inl (cI, 12, .inl c_f10)), (bc 11, .inl (cI, 6, .inl c_f11)), (bc 12, .inl (cI, 7, .inl c_f12)), (bc 13, .inl (cI, 7, .inl c_f13)), (bc 14, .inl (cI, 7, .inl c_f14)), (bc 15, .inl (cI, 7, .inl c_f15)), (bc 16, .inl (cI, 7, .inl c_f16)), (bc 17, .inl (cI, 56, .inl c_f17)), (bc 18, .inl (cI, 30, .inl c_f18)), (h2, oX7 z0 z5 z6 y7 z8 z9 z10), (h3, oX6 bs y11 z12), (bs 0, .inl (cI, 287, .inl g15)), (bs 1, .inl (cI, 7, .inl g16)), (bs 2, .inl (cI, 7, .inl g17)), (bs 3, .inl (cJ, 7, .inr (.inl g18))), (bs 4, .inl (cI, 7, .inl g19)), (bs 5, .inl (cI, 6, .inl g20)), (bs 6, .inl (cI, 78, .inl g21)), (bs 7, .inl (cJ, 13, .inr (.inl g22))), (bs 8, .inl (cJ, 13, .inr (.inl g23))), (bs 9, .inl (cJ, 13, .inr (.inl g24)))] H := hP
          have hD : va_D A [(h0, oX1 b 1), (b 0, .inl (cJ, 128, .inr (.inl g13))), (b 1, .inl (cI, 128, .inl g14)), (h1, oX0 bc c_lines c_span c_rule c_odds c_wide c_high c_creeks c_houses c_widows c_acts), (bc 10, .inl (cI, 12, .inl c_f10)), (bc 11, .inl (cI, 6, .inl c_f11)), (bc 12, .inl (cI, 7, .inl c_f12)), (bc 13, .inl (cI, 7, .inl c_f13)), (bc 14, .inl (cI, 7, .inl c_f14)), (bc 15, .inl (cI, 7, .inl c_f15)), (bc 16, .inl (cI, 7, .inl c_f16)), (bc 17, .inl (cI, 56, .inl c_f17)), (bc 18, .inl (cI, 30, .inl c_f18)), (h2, oX7 z0 z5 z6 y7 z8 z9 z10), (h3, oX6 bs y11 z12), (bs 0, .inl (cI, 287, .inl g15)), (bs 1, .inl (cI, 7, .inl g16)), (bs 2, .inl (cI, 7, .inl g17)), (bs 3, .inl (cJ, 7, .inr (.inl g18))), (bs 4, .inl (cI, 7, .inl g19)), (bs 5, .inl (cI, 6, .inl g20)), (bs 6, .inl (cI, 78, .inl g21)), (bs 7, .inl (cJ, 13, .inr (.inl g22))), (bs 8, .inl (cJ, 13, .inr (.inl g23))), (bs 9, .inl (cJ, 13, .inr (.inl g24)))] := hD
          exact hret _ _ _ _ (1, g13, g14, z5, z6, y7, z8, z9, z10, y11, z12, g15, g16, g17, g18, g19, g20, g21, g22, g23, g24) hP hD hS dX1_know_86 (show 0 ≤ (1 : Int32).toInt ∧ (1 : Int32).toInt ≤ 1 ∧ 0 ≤ z12.toInt ∧ z12.toInt ≤ 6 ∧ ai g16 7 (-1) 40 from ⟨(by rw [ki_1]; decide), (by rw [ki_1]; decide), k27, k28, k29⟩)
        · have c35 := i_nle rfl rfl c35
          refine lv_aload_n hx hb dX1_know_22 rfl (lv_at hl 3 rfl) ?_
          refine lv_aload_n hx hb dX1_know_23 rfl (lv_at hl 2 rfl) ?_
          refine k_v (wc := [(h2, oX7 z0 z5 z6 y7 z8 z9 z10), (h1, oX0 bc c_lines c_span c_rule c_odds c_wide c_high c_creeks c_houses c_widows c_acts), (bc 10, .inl (cI, 12, .inl c_f10)), (bc 18, .inl (cI, 30, .inl c_f18))]) (wr := [(h0, oX1 b o_known), (b 0, .inl (cJ, 128, .inr (.inl g13))), (b 1, .inl (cI, 128, .inl g14)), (bc 11, .inl (cI, 6, .inl c_f11)), (bc 12, .inl (cI, 7, .inl c_f12)), (bc 13, .inl (cI, 7, .inl c_f13)), (bc 14, .inl (cI, 7, .inl c_f14)), (bc 15, .inl (cI, 7, .inl c_f15)), (bc 16, .inl (cI, 7, .inl c_f16)), (bc 17, .inl (cI, 56, .inl c_f17)), (h3, oX6 bs y11 z12), (bs 0, .inl (cI, 287, .inl g15)), (bs 1, .inl (cI, 7, .inl g16)), (bs 2, .inl (cI, 7, .inl g17)), (bs 3, .inl (cJ, 7, .inr (.inl g18))), (bs 4, .inl (cI, 7, .inl g19)), (bs 5, .inl (cI, 6, .inl g20)), (bs 6, .inl (cI, 78, .inl g21)), (bs 7, .inl (cJ, 13, .inr (.inl g22))), (bs 8, .inl (cJ, 13, .inr (.inl g23))), (bs 9, .inl (cJ, 13, .inr (.inl g24)))]) hP hD hS hA [13, 3, 4, 12] [0, 1, 2, 5, 6, 7, 8, 9, 10, 11, 14, 15, 16, 17, 18, 19, 20, 21, 22, 23, 24] rfl rfl rfl (by decide) (va_runVN (As := [.ref h1]) (rest := []) ⟨hx, hb, hml, hown, hts⟩ (f_X7_asNow l G cI cJ cZ cB cQ _ h2 h1 z5 z6 y7 z8 z9 z10 bc c_lines c_span c_rule c_odds c_wide c_high c_creeks c_houses c_widows c_acts c_f10 c_f18 hl_c_span hh_c_span hl_c_rule hh_c_rule hl_c_odds hh_c_odds hl_c_wide hh_c_wide hl_c_high hh_c_high hl_c_creeks hh_c_creeks hl_c_houses hh_c_houses hl_c_widows hh_c_widows hl_c_acts hh_c_acts) ⟨va_cnB (host := "WidowRoads") 1 hts (gW w_576) rfl rfl rfl (nz_nw hZ nw_1015 rfl) (hts _ w_5) hd_X7_asNow ⟨Nat.le_of_ble_eq_true rfl, Nat.le_of_ble_eq_true rfl⟩, (hts _ w_575), (hts _ wp_22)⟩ (mV hK hZ hP hD [13, 3, 4, 12] rfl rfl [.ref h1] 13 7 rfl rfl) rfl rfl hl.1 rfl (lv_room (Nat.le_of_ble_eq_true rfl)) dX1_know_24 ⟨Nat.le_of_ble_eq_true rfl, Nat.le_of_ble_eq_true rfl⟩) (fun u37 H locs hw38 hP hD hS => ?_)
          obtain ⟨o_ruleo39, o_walkerso40, o_creekso41, o_widowo42, o_faceso43, o_turno44⟩ := u37
          try dsimp only at hw38
          have hP : va_P G vwCl [(h0, oX1 b o_known), (b 0, .inl (cJ, 128, .inr (.inl g13))), (b 1, .inl (cI, 128, .inl g14)), (bc 11, .inl (cI, 6, .inl c_f11)), (bc 12, .inl (cI, 7, .inl c_f12)), (bc 13, .inl (cI, 7, .inl c_f13)), (bc 14, .inl (cI, 7, .inl c_f14)), (bc 15, .inl (cI, 7, .inl c_f15)), (bc 16, .inl (cI, 7, .inl c_f16)), (bc 17, .inl (cI, 56, .inl c_f17)), (h3, oX6 bs y11 z12), (bs 0, .inl (cI, 287, .inl g15)), (bs 1, .inl (cI, 7, .inl g16)), (bs 2, .inl (cI, 7, .inl g17)), (bs 3, .inl (cJ, 7, .inr (.inl g18))), (bs 4, .inl (cI, 7, .inl g19)), (bs 5, .inl (cI, 6, .inl g20)), (bs 6, .inl (cI, 78, .inl g21)), (bs 7, .inl (cJ, 13, .inr (.inl g22))), (bs 8, .inl (cJ, 13, .inr (.inl g23))), (bs 9, .inl (cJ, 13, .inr (.inl g24))), (h2, oX7 z0 o_ruleo39 o_walkerso40 o_creekso41 o_widowo42 o_faceso43 o_turno44), (h1, oX0 bc c_lines c_span c_rule c_odds c_wide c_high c_creeks c_houses c_widows c_acts), (bc 10, .inl (cI, 12, .inl c_f10)), (bc 18, .inl (cI, 30, .inl c_f18))] H := hP
          have hD : va_D A [(h0, oX1 b o_known), (b 0, .inl (cJ, 128, .inr (.inl g13))), (b 1, .inl (cI, 128, .inl g14)), (bc 11, .inl (cI, 6, .inl c_f11)), (bc 12, .inl (cI, 7, .inl c_f12)), (bc 13, .inl (cI, 7, .inl c_f13)), (bc 14, .inl (cI, 7, .inl c_f14)), (bc 15, .inl (cI, 7, .inl c_f15)), (bc 16, .inl (cI, 7, .inl c_f16)), (bc 17, .inl (cI, 56, .inl c_f17)), (h3, oX6 bs y11 z12), (bs 0, .inl (cI, 287, .inl g15)), (bs 1, .inl (cI, 7, .inl g16)), (bs 2, .inl (cI, 7, .inl g17)), (bs 3, .inl (cJ, 7, .inr (.inl g18))), (bs 4, .inl (cI, 7, .inl g19)), (bs 5, .inl (cI, 6, .inl g20)), (bs 6, .inl (cI, 78, .inl g21)), (bs 7, .inl (cJ, 13, .inr (.inl g22))), (bs 8, .inl (cJ, 13, .inr (.inl g23))), (bs 9, .inl (cJ, 13, .inr (.inl g24))), (h2, oX7 z0 o_ruleo39 o_walkerso40 o_creekso41 o_widowo42 o_faceso43 o_turno44), (h1, oX0 bc c_lines c_span c_rule c_odds c_wide c_high c_creeks c_houses c_widows c_acts), (bc 10, .inl (cI, 12, .inl c_f10)), (bc 18, .inl (cI, 30, .inl c_f18))] := hD
          refine lv_aload_n hx hb dX1_know_27 rfl (lv_at hl 3 rfl) ?_
          refine lv_dup hx hb dX1_know_28 rfl ?_
          refine va_getN (D := G) (ci := 7) (v := .int o_walkerso40) (C := RX7) (T := TX7) (N := 6) hx hb hts iG_X7 hown hK hP 21 rfl rfl 1 (by decide) (nz_use hZ nw_202 rfl) (fun _ h9 => h9) rfl dX1_know_29 ?_
          refine lv_iload hx hb dX1_know_32 (lv_at hl 0 rfl) ?_
          refine lv_iand hx hb dX1_know_34 ?_
          refine lv_topi (fun v45 ev45 => ?_)
          refine va_putN (D := G) (ci := 7) (v := .int v45) (ty := .int) (C := RX7) (T := TX7) (N := 6) hx hb hts iG_X7 tyX7 tyX7_ok nmX7 hown hK hP hD hS 21 rfl rfl 1 (by decide) (nz_use hZ nw_202 rfl) (fun _ h9 => h9) rfl (by decide +kernel) rfl rfl (Nat.le_of_ble_eq_true rfl) dX1_know_35 (fun H locs hP hD hS => ?_)
          have hP : va_P G vwCl [(h0, oX1 b o_known), (b 0, .inl (cJ, 128, .inr (.inl g13))), (b 1, .inl (cI, 128, .inl g14)), (bc 11, .inl (cI, 6, .inl c_f11)), (bc 12, .inl (cI, 7, .inl c_f12)), (bc 13, .inl (cI, 7, .inl c_f13)), (bc 14, .inl (cI, 7, .inl c_f14)), (bc 15, .inl (cI, 7, .inl c_f15)), (bc 16, .inl (cI, 7, .inl c_f16)), (bc 17, .inl (cI, 56, .inl c_f17)), (h3, oX6 bs y11 z12), (bs 0, .inl (cI, 287, .inl g15)), (bs 1, .inl (cI, 7, .inl g16)), (bs 2, .inl (cI, 7, .inl g17)), (bs 3, .inl (cJ, 7, .inr (.inl g18))), (bs 4, .inl (cI, 7, .inl g19)), (bs 5, .inl (cI, 6, .inl g20)), (bs 6, .inl (cI, 78, .inl g21)), (bs 7, .inl (cJ, 13, .inr (.inl g22))), (bs 8, .inl (cJ, 13, .inr (.inl g23))), (bs 9, .inl (cJ, 13, .inr (.inl g24))), (h2, oX7 z0 o_ruleo39 v45 o_creekso41 o_widowo42 o_faceso43 o_turno44), (h1, oX0 bc c_lines c_span c_rule c_odds c_wide c_high c_creeks c_houses c_widows c_acts), (bc 10, .inl (cI, 12, .inl c_f10)), (bc 18, .inl (cI, 30, .inl c_f18))] H := hP
          have hD : va_D A [(h0, oX1 b o_known), (b 0, .inl (cJ, 128, .inr (.inl g13))), (b 1, .inl (cI, 128, .inl g14)), (bc 11, .inl (cI, 6, .inl c_f11)), (bc 12, .inl (cI, 7, .inl c_f12)), (bc 13, .inl (cI, 7, .inl c_f13)), (bc 14, .inl (cI, 7, .inl c_f14)), (bc 15, .inl (cI, 7, .inl c_f15)), (bc 16, .inl (cI, 7, .inl c_f16)), (bc 17, .inl (cI, 56, .inl c_f17)), (h3, oX6 bs y11 z12), (bs 0, .inl (cI, 287, .inl g15)), (bs 1, .inl (cI, 7, .inl g16)), (bs 2, .inl (cI, 7, .inl g17)), (bs 3, .inl (cJ, 7, .inr (.inl g18))), (bs 4, .inl (cI, 7, .inl g19)), (bs 5, .inl (cI, 6, .inl g20)), (bs 6, .inl (cI, 78, .inl g21)), (bs 7, .inl (cJ, 13, .inr (.inl g22))), (bs 8, .inl (cJ, 13, .inr (.inl g23))), (bs 9, .inl (cJ, 13, .inr (.inl g24))), (h2, oX7 z0 o_ruleo39 v45 o_creekso41 o_widowo42 o_faceso43 o_turno44), (h1, oX0 bc c_lines c_span c_rule c_odds c_wide c_high c_creeks c_houses c_widows c_acts), (bc 10, .inl (cI, 12, .inl c_f10)), (bc 18, .inl (cI, 30, .inl c_f18))] := hD
          refine lv_aload_n hx hb dX1_know_38 rfl (lv_at hl 4 rfl) ?_
          refine lv_aload_n hx hb dX1_know_39 rfl (lv_at hl 2 rfl) ?_
          refine lv_aload_n hx hb dX1_know_40 rfl (lv_at hl 3 rfl) ?_
          refine k_v (wc := [(h3, oX6 bs y11 z12), (bs 0, .inl (cI, 287, .inl g15)), (bs 1, .inl (cI, 7, .inl g16)), (bs 2, .inl (cI, 7, .inl g17)), (bs 3, .inl (cJ, 7, .inr (.inl g18))), (bs 4, .inl (cI, 7, .inl g19)), (bs 5, .inl (cI, 6, .inl g20)), (bs 6, .inl (cI, 78, .inl g21)), (bs 7, .inl (cJ, 13, .inr (.inl g22))), (bs 8, .inl (cJ, 13, .inr (.inl g23))), (bs 9, .inl (cJ, 13, .inr (.inl g24))), (h1, oX0 bc c_lines c_span c_rule c_odds c_wide c_high c_creeks c_houses c_widows c_acts), (bc 11, .inl (cI, 6, .inl c_f11)), (bc 12, .inl (cI, 7, .inl c_f12)), (bc 13, .inl (cI, 7, .inl c_f13)), (bc 14, .inl (cI, 7, .inl c_f14)), (bc 15, .inl (cI, 7, .inl c_f15)), (bc 16, .inl (cI, 7, .inl c_f16)), (bc 17, .inl (cI, 56, .inl c_f17)), (h2, oX7 z0 o_ruleo39 v45 o_creekso41 o_widowo42 o_faceso43 o_turno44)]) (wr := [(h0, oX1 b o_known), (b 0, .inl (cJ, 128, .inr (.inl g13))), (b 1, .inl (cI, 128, .inl g14)), (bc 10, .inl (cI, 12, .inl c_f10)), (bc 18, .inl (cI, 30, .inl c_f18))]) hP hD hS hA [10, 11, 12, 13, 14, 15, 16, 17, 18, 19, 20, 22, 3, 4, 5, 6, 7, 8, 9, 21] [0, 1, 2, 23, 24] rfl rfl rfl (by decide) (va_runVN (As := [.ref h1, .ref h2]) (rest := []) ⟨hx, hb, hml, hown, hts⟩ (f_X6_tell l G cI cJ cZ cB cQ _ h3 h1 h2 bs y11 z12 g15 g16 g17 g18 g19 g20 g21 g22 g23 g24 bc c_lines c_span c_rule c_odds c_wide c_high c_creeks c_houses c_widows c_acts c_f11 c_f12 c_f13 c_f14 c_f15 c_f16 c_f17 o_ruleo39 v45 o_creekso41 o_widowo42 o_faceso43 o_turno44 k27 k28 k29 hl_c_span hh_c_span hl_c_rule hh_c_rule hl_c_odds hh_c_odds hl_c_wide hh_c_wide hl_c_high hh_c_high hl_c_creeks hh_c_creeks hl_c_houses hh_c_houses hl_c_widows hh_c_widows hl_c_acts hh_c_acts ha_c_f14 ha_c_f16) ⟨va_cnB (host := "WidowRoads") 2 hts (gW w_585) rfl rfl rfl (nz_nw hZ nw_1016 rfl) (hts _ w_6) hd_X6_tell ⟨Nat.le_of_ble_eq_true rfl, Nat.le_of_ble_eq_true rfl⟩, (hts _ w_584), (hts _ wp_24)⟩ (mV hK hZ hP hD [10, 11, 12, 13, 14, 15, 16, 17, 18, 19, 20, 22, 3, 4, 5, 6, 7, 8, 9, 21] rfl rfl [.ref h1, .ref h2] 10 6 rfl rfl) rfl rfl hl.1 rfl (lv_room (Nat.le_of_ble_eq_true rfl)) dX1_know_41 ⟨Nat.le_of_ble_eq_true rfl, Nat.le_of_ble_eq_true rfl⟩) (fun u47 H locs hw48 hP hD hS => ?_)
          obtain ⟨o_fieldo49, o_houseso50, o_f0o51, o_f1o52, o_f2o53, o_f3o54, o_f4o55, o_f5o56, o_f6o57, o_f7o58, o_f8o59, o_f9o60⟩ := u47
          try dsimp only at hw48
          have hP : va_P G vwCl [(h0, oX1 b o_known), (b 0, .inl (cJ, 128, .inr (.inl g13))), (b 1, .inl (cI, 128, .inl g14)), (bc 10, .inl (cI, 12, .inl c_f10)), (bc 18, .inl (cI, 30, .inl c_f18)), (h3, oX6 bs o_fieldo49 o_houseso50), (bs 0, .inl (cI, 287, .inl o_f0o51)), (bs 1, .inl (cI, 7, .inl o_f1o52)), (bs 2, .inl (cI, 7, .inl o_f2o53)), (bs 3, .inl (cJ, 7, .inr (.inl o_f3o54))), (bs 4, .inl (cI, 7, .inl o_f4o55)), (bs 5, .inl (cI, 6, .inl o_f5o56)), (bs 6, .inl (cI, 78, .inl o_f6o57)), (bs 7, .inl (cJ, 13, .inr (.inl o_f7o58))), (bs 8, .inl (cJ, 13, .inr (.inl o_f8o59))), (bs 9, .inl (cJ, 13, .inr (.inl o_f9o60))), (h1, oX0 bc c_lines c_span c_rule c_odds c_wide c_high c_creeks c_houses c_widows c_acts), (bc 11, .inl (cI, 6, .inl c_f11)), (bc 12, .inl (cI, 7, .inl c_f12)), (bc 13, .inl (cI, 7, .inl c_f13)), (bc 14, .inl (cI, 7, .inl c_f14)), (bc 15, .inl (cI, 7, .inl c_f15)), (bc 16, .inl (cI, 7, .inl c_f16)), (bc 17, .inl (cI, 56, .inl c_f17)), (h2, oX7 z0 o_ruleo39 v45 o_creekso41 o_widowo42 o_faceso43 o_turno44)] H := hP
          have hD : va_D A [(h0, oX1 b o_known), (b 0, .inl (cJ, 128, .inr (.inl g13))), (b 1, .inl (cI, 128, .inl g14)), (bc 10, .inl (cI, 12, .inl c_f10)), (bc 18, .inl (cI, 30, .inl c_f18)), (h3, oX6 bs o_fieldo49 o_houseso50), (bs 0, .inl (cI, 287, .inl o_f0o51)), (bs 1, .inl (cI, 7, .inl o_f1o52)), (bs 2, .inl (cI, 7, .inl o_f2o53)), (bs 3, .inl (cJ, 7, .inr (.inl o_f3o54))), (bs 4, .inl (cI, 7, .inl o_f4o55)), (bs 5, .inl (cI, 6, .inl o_f5o56)), (bs 6, .inl (cI, 78, .inl o_f6o57)), (bs 7, .inl (cJ, 13, .inr (.inl o_f7o58))), (bs 8, .inl (cJ, 13, .inr (.inl o_f8o59))), (bs 9, .inl (cJ, 13, .inr (.inl o_f9o60))), (h1, oX0 bc c_lines c_span c_rule c_odds c_wide c_high c_creeks c_houses c_widows c_acts), (bc 11, .inl (cI, 6, .inl c_f11)), (bc 12, .inl (cI, 7, .inl c_f12)), (bc 13, .inl (cI, 7, .inl c_f13)), (bc 14, .inl (cI, 7, .inl c_f14)), (bc 15, .inl (cI, 7, .inl c_f15)), (bc 16, .inl (cI, 7, .inl c_f16)), (bc 17, .inl (cI, 56, .inl c_f17)), (h2, oX7 z0 o_ruleo39 v45 o_creekso41 o_widowo42 o_faceso43 o_turno44)] := hD
          obtain ⟨w61, w62, w63⟩ : 0 ≤ o_houseso50.toInt ∧ o_houseso50.toInt ≤ 6 ∧ ai o_f1o52 7 (-1) 40 := hw48
          refine lv_aload_n hx hb dX1_know_44 rfl (lv_at hl 1 rfl) ?_
          refine va_get (D := G) (ci := 1) (v := .ref (b 0)) (C := RX1) (T := TX1) (N := 3) hx hb hts iG_X1 hown hK hP 0 rfl rfl 0 (by decide) (hts _ w_288) (fun _ h9 => h9) rfl dX1_know_45 ?_
          refine lv_iload hx hb dX1_know_48 (lv_at hl 0 rfl) ?_
          refine lv_aload_n hx hb dX1_know_50 rfl (lv_at hl 4 rfl) ?_
          refine va_getN (D := G) (ci := 6) (v := .ref (bs 7)) (C := RX6) (T := TX6) (N := 12) hx hb hts iG_X6 hown hK hP 5 rfl rfl 7 (by decide) (nz_use hZ nw_248 rfl) (fun _ h9 => h9) rfl dX1_know_51 ?_
          refine lv_aload_n hx hb dX1_know_54 rfl (lv_at hl 2 rfl) ?_
          refine va_getN (D := G) (ci := 0) (v := .int c_span) (C := RX0) (T := TX0) (N := 19) hx hb hts iG_X0 hown hK hP 16 rfl rfl 1 (by decide) (nz_use hZ nw_60 rfl) (fun _ h9 => h9) rfl dX1_know_55 ?_
          refine va_lald hx hb hK hP 13 1 rfl rfl (ix_in rfl (by omega) (by omega)) dX1_know_58 ?_
          refine lv_topl (fun v64 ev64 => ?_)
          refine va_last hx hb hK hP hD hS 1 1 rfl rfl (ix_in rfl (by omega) (by omega)) dX1_know_59 (fun H locs hP hD hS => ?_)
          obtain ⟨f65, qf65⟩ : ∃ g, g = vp_updL g13 x4.toNatClampNeg v64 := ⟨_, rfl⟩
          rw [← qf65] at hP hD
          have hP : va_P G vwCl [(h0, oX1 b o_known), (b 0, .inl (cJ, 128, .inr (.inl f65))), (b 1, .inl (cI, 128, .inl g14)), (bc 10, .inl (cI, 12, .inl c_f10)), (bc 18, .inl (cI, 30, .inl c_f18)), (h3, oX6 bs o_fieldo49 o_houseso50), (bs 0, .inl (cI, 287, .inl o_f0o51)), (bs 1, .inl (cI, 7, .inl o_f1o52)), (bs 2, .inl (cI, 7, .inl o_f2o53)), (bs 3, .inl (cJ, 7, .inr (.inl o_f3o54))), (bs 4, .inl (cI, 7, .inl o_f4o55)), (bs 5, .inl (cI, 6, .inl o_f5o56)), (bs 6, .inl (cI, 78, .inl o_f6o57)), (bs 7, .inl (cJ, 13, .inr (.inl o_f7o58))), (bs 8, .inl (cJ, 13, .inr (.inl o_f8o59))), (bs 9, .inl (cJ, 13, .inr (.inl o_f9o60))), (h1, oX0 bc c_lines c_span c_rule c_odds c_wide c_high c_creeks c_houses c_widows c_acts), (bc 11, .inl (cI, 6, .inl c_f11)), (bc 12, .inl (cI, 7, .inl c_f12)), (bc 13, .inl (cI, 7, .inl c_f13)), (bc 14, .inl (cI, 7, .inl c_f14)), (bc 15, .inl (cI, 7, .inl c_f15)), (bc 16, .inl (cI, 7, .inl c_f16)), (bc 17, .inl (cI, 56, .inl c_f17)), (h2, oX7 z0 o_ruleo39 v45 o_creekso41 o_widowo42 o_faceso43 o_turno44)] H := hP
          have hD : va_D A [(h0, oX1 b o_known), (b 0, .inl (cJ, 128, .inr (.inl f65))), (b 1, .inl (cI, 128, .inl g14)), (bc 10, .inl (cI, 12, .inl c_f10)), (bc 18, .inl (cI, 30, .inl c_f18)), (h3, oX6 bs o_fieldo49 o_houseso50), (bs 0, .inl (cI, 287, .inl o_f0o51)), (bs 1, .inl (cI, 7, .inl o_f1o52)), (bs 2, .inl (cI, 7, .inl o_f2o53)), (bs 3, .inl (cJ, 7, .inr (.inl o_f3o54))), (bs 4, .inl (cI, 7, .inl o_f4o55)), (bs 5, .inl (cI, 6, .inl o_f5o56)), (bs 6, .inl (cI, 78, .inl o_f6o57)), (bs 7, .inl (cJ, 13, .inr (.inl o_f7o58))), (bs 8, .inl (cJ, 13, .inr (.inl o_f8o59))), (bs 9, .inl (cJ, 13, .inr (.inl o_f9o60))), (h1, oX0 bc c_lines c_span c_rule c_odds c_wide c_high c_creeks c_houses c_widows c_acts), (bc 11, .inl (cI, 6, .inl c_f11)), (bc 12, .inl (cI, 7, .inl c_f12)), (bc 13, .inl (cI, 7, .inl c_f13)), (bc 14, .inl (cI, 7, .inl c_f14)), (bc 15, .inl (cI, 7, .inl c_f15)), (bc 16, .inl (cI, 7, .inl c_f16)), (bc 17, .inl (cI, 56, .inl c_f17)), (h2, oX7 z0 o_ruleo39 v45 o_creekso41 o_widowo42 o_faceso43 o_turno44)] := hD
          refine lv_aload_n hx hb dX1_know_60 rfl (lv_at hl 1 rfl) ?_
          refine va_get (D := G) (ci := 1) (v := .ref (b 1)) (C := RX1) (T := TX1) (N := 3) hx hb hts iG_X1 hown hK hP 0 rfl rfl 1 (by decide) (hts _ w_289) (fun _ h9 => h9) rfl dX1_know_61 ?_
          refine lv_iload hx hb dX1_know_64 (lv_at hl 0 rfl) ?_
          refine lv_aload_n hx hb dX1_know_66 rfl (lv_at hl 4 rfl) ?_
          refine lv_aload_n hx hb dX1_know_67 rfl (lv_at hl 2 rfl) ?_
          refine va_getN (D := G) (ci := 0) (v := .int c_span) (C := RX0) (T := TX0) (N := 19) hx hb hts iG_X0 hown hK hP 16 rfl rfl 1 (by decide) (nz_use hZ nw_60 rfl) (fun _ h9 => h9) rfl dX1_know_68 ?_
          refine k_i (wc := [(h3, oX6 bs o_fieldo49 o_houseso50), (bs 8, .inl (cJ, 13, .inr (.inl o_f8o59))), (bs 9, .inl (cJ, 13, .inr (.inl o_f9o60)))]) (wr := [(h0, oX1 b o_known), (b 0, .inl (cJ, 128, .inr (.inl f65))), (b 1, .inl (cI, 128, .inl g14)), (bc 10, .inl (cI, 12, .inl c_f10)), (bc 18, .inl (cI, 30, .inl c_f18)), (bs 0, .inl (cI, 287, .inl o_f0o51)), (bs 1, .inl (cI, 7, .inl o_f1o52)), (bs 2, .inl (cI, 7, .inl o_f2o53)), (bs 3, .inl (cJ, 7, .inr (.inl o_f3o54))), (bs 4, .inl (cI, 7, .inl o_f4o55)), (bs 5, .inl (cI, 6, .inl o_f5o56)), (bs 6, .inl (cI, 78, .inl o_f6o57)), (bs 7, .inl (cJ, 13, .inr (.inl o_f7o58))), (h1, oX0 bc c_lines c_span c_rule c_odds c_wide c_high c_creeks c_houses c_widows c_acts), (bc 11, .inl (cI, 6, .inl c_f11)), (bc 12, .inl (cI, 7, .inl c_f12)), (bc 13, .inl (cI, 7, .inl c_f13)), (bc 14, .inl (cI, 7, .inl c_f14)), (bc 15, .inl (cI, 7, .inl c_f15)), (bc 16, .inl (cI, 7, .inl c_f16)), (bc 17, .inl (cI, 56, .inl c_f17)), (h2, oX7 z0 o_ruleo39 v45 o_creekso41 o_widowo42 o_faceso43 o_turno44)]) hP hD hS hA [5, 14, 15] [0, 1, 2, 3, 4, 6, 7, 8, 9, 10, 11, 12, 13, 16, 17, 18, 19, 20, 21, 22, 23, 24] rfl rfl rfl (by decide) (va_runVN (As := [.int c_span]) (rest := [.int x4, .ref (b 1)]) ⟨hx, hb, hml, hown, hts⟩ (f_X6_pegsIn l G cI cJ cZ cB cQ _ h3 c_span bs o_fieldo49 o_houseso50 o_f8o59 o_f9o60 hl_c_span hh_c_span w61 w62) ⟨va_cnB (host := "WidowRoads") 1 hts (gW w_772) rfl rfl rfl (nz_nw hZ nw_1017 rfl) (hts _ w_6) hd_X6_pegsIn ⟨Nat.le_of_ble_eq_true rfl, Nat.le_of_ble_eq_true rfl⟩, (hts _ w_771), (hts _ wp_44)⟩ (mV hK hZ hP hD [5, 14, 15] rfl rfl [.int c_span] 5 6 rfl rfl) rfl rfl hl.1 rfl (lv_room (Nat.le_of_ble_eq_true rfl)) dX1_know_71 ⟨Nat.le_of_ble_eq_true rfl, Nat.le_of_ble_eq_true rfl⟩) (fun r66 u67 H locs hw68 hP hD hS => ?_)
          try dsimp only at hw68
          have hP : va_P G vwCl [(h0, oX1 b o_known), (b 0, .inl (cJ, 128, .inr (.inl f65))), (b 1, .inl (cI, 128, .inl g14)), (bc 10, .inl (cI, 12, .inl c_f10)), (bc 18, .inl (cI, 30, .inl c_f18)), (bs 0, .inl (cI, 287, .inl o_f0o51)), (bs 1, .inl (cI, 7, .inl o_f1o52)), (bs 2, .inl (cI, 7, .inl o_f2o53)), (bs 3, .inl (cJ, 7, .inr (.inl o_f3o54))), (bs 4, .inl (cI, 7, .inl o_f4o55)), (bs 5, .inl (cI, 6, .inl o_f5o56)), (bs 6, .inl (cI, 78, .inl o_f6o57)), (bs 7, .inl (cJ, 13, .inr (.inl o_f7o58))), (h1, oX0 bc c_lines c_span c_rule c_odds c_wide c_high c_creeks c_houses c_widows c_acts), (bc 11, .inl (cI, 6, .inl c_f11)), (bc 12, .inl (cI, 7, .inl c_f12)), (bc 13, .inl (cI, 7, .inl c_f13)), (bc 14, .inl (cI, 7, .inl c_f14)), (bc 15, .inl (cI, 7, .inl c_f15)), (bc 16, .inl (cI, 7, .inl c_f16)), (bc 17, .inl (cI, 56, .inl c_f17)), (h2, oX7 z0 o_ruleo39 v45 o_creekso41 o_widowo42 o_faceso43 o_turno44), (h3, oX6 bs o_fieldo49 o_houseso50), (bs 8, .inl (cJ, 13, .inr (.inl o_f8o59))), (bs 9, .inl (cJ, 13, .inr (.inl o_f9o60)))] H := hP
          have hD : va_D A [(h0, oX1 b o_known), (b 0, .inl (cJ, 128, .inr (.inl f65))), (b 1, .inl (cI, 128, .inl g14)), (bc 10, .inl (cI, 12, .inl c_f10)), (bc 18, .inl (cI, 30, .inl c_f18)), (bs 0, .inl (cI, 287, .inl o_f0o51)), (bs 1, .inl (cI, 7, .inl o_f1o52)), (bs 2, .inl (cI, 7, .inl o_f2o53)), (bs 3, .inl (cJ, 7, .inr (.inl o_f3o54))), (bs 4, .inl (cI, 7, .inl o_f4o55)), (bs 5, .inl (cI, 6, .inl o_f5o56)), (bs 6, .inl (cI, 78, .inl o_f6o57)), (bs 7, .inl (cJ, 13, .inr (.inl o_f7o58))), (h1, oX0 bc c_lines c_span c_rule c_odds c_wide c_high c_creeks c_houses c_widows c_acts), (bc 11, .inl (cI, 6, .inl c_f11)), (bc 12, .inl (cI, 7, .inl c_f12)), (bc 13, .inl (cI, 7, .inl c_f13)), (bc 14, .inl (cI, 7, .inl c_f14)), (bc 15, .inl (cI, 7, .inl c_f15)), (bc 16, .inl (cI, 7, .inl c_f16)), (bc 17, .inl (cI, 56, .inl c_f17)), (h2, oX7 z0 o_ruleo39 v45 o_creekso41 o_widowo42 o_faceso43 o_turno44), (h3, oX6 bs o_fieldo49 o_houseso50), (bs 8, .inl (cJ, 13, .inr (.inl o_f8o59))), (bs 9, .inl (cJ, 13, .inr (.inl o_f9o60)))] := hD
          refine va_iast hx hb hK hP hD hS 2 0 rfl rfl (ix_in rfl (by omega) (by omega)) dX1_know_74 (fun H locs hP hD hS => ?_)
          obtain ⟨f69, qf69⟩ : ∃ g, g = upd g14 x4.toNatClampNeg r66 := ⟨_, rfl⟩
          rw [← qf69] at hP hD
          have hP : va_P G vwCl [(h0, oX1 b o_known), (b 0, .inl (cJ, 128, .inr (.inl f65))), (b 1, .inl (cI, 128, .inl f69)), (bc 10, .inl (cI, 12, .inl c_f10)), (bc 18, .inl (cI, 30, .inl c_f18)), (bs 0, .inl (cI, 287, .inl o_f0o51)), (bs 1, .inl (cI, 7, .inl o_f1o52)), (bs 2, .inl (cI, 7, .inl o_f2o53)), (bs 3, .inl (cJ, 7, .inr (.inl o_f3o54))), (bs 4, .inl (cI, 7, .inl o_f4o55)), (bs 5, .inl (cI, 6, .inl o_f5o56)), (bs 6, .inl (cI, 78, .inl o_f6o57)), (bs 7, .inl (cJ, 13, .inr (.inl o_f7o58))), (h1, oX0 bc c_lines c_span c_rule c_odds c_wide c_high c_creeks c_houses c_widows c_acts), (bc 11, .inl (cI, 6, .inl c_f11)), (bc 12, .inl (cI, 7, .inl c_f12)), (bc 13, .inl (cI, 7, .inl c_f13)), (bc 14, .inl (cI, 7, .inl c_f14)), (bc 15, .inl (cI, 7, .inl c_f15)), (bc 16, .inl (cI, 7, .inl c_f16)), (bc 17, .inl (cI, 56, .inl c_f17)), (h2, oX7 z0 o_ruleo39 v45 o_creekso41 o_widowo42 o_faceso43 o_turno44), (h3, oX6 bs o_fieldo49 o_houseso50), (bs 8, .inl (cJ, 13, .inr (.inl o_f8o59))), (bs 9, .inl (cJ, 13, .inr (.inl o_f9o60)))] H := hP
          have hD : va_D A [(h0, oX1 b o_known), (b 0, .inl (cJ, 128, .inr (.inl f65))), (b 1, .inl (cI, 128, .inl f69)), (bc 10, .inl (cI, 12, .inl c_f10)), (bc 18, .inl (cI, 30, .inl c_f18)), (bs 0, .inl (cI, 287, .inl o_f0o51)), (bs 1, .inl (cI, 7, .inl o_f1o52)), (bs 2, .inl (cI, 7, .inl o_f2o53)), (bs 3, .inl (cJ, 7, .inr (.inl o_f3o54))), (bs 4, .inl (cI, 7, .inl o_f4o55)), (bs 5, .inl (cI, 6, .inl o_f5o56)), (bs 6, .inl (cI, 78, .inl o_f6o57)), (bs 7, .inl (cJ, 13, .inr (.inl o_f7o58))), (h1, oX0 bc c_lines c_span c_rule c_odds c_wide c_high c_creeks c_houses c_widows c_acts), (bc 11, .inl (cI, 6, .inl c_f11)), (bc 12, .inl (cI, 7, .inl c_f12)), (bc 13, .inl (cI, 7, .inl c_f13)), (bc 14, .inl (cI, 7, .inl c_f14)), (bc 15, .inl (cI, 7, .inl c_f15)), (bc 16, .inl (cI, 7, .inl c_f16)), (bc 17, .inl (cI, 56, .inl c_f17)), (h2, oX7 z0 o_ruleo39 v45 o_creekso41 o_widowo42 o_faceso43 o_turno44), (h3, oX6 bs o_fieldo49 o_houseso50), (bs 8, .inl (cJ, 13, .inr (.inl o_f8o59))), (bs 9, .inl (cJ, 13, .inr (.inl o_f9o60)))] := hD
          obtain ⟨v70, ev70⟩ : ∃ y : Int32, y = x4 + 1 := ⟨_, rfl⟩
          have tv70 : v70.toInt = x4.toInt + 1 := ti_add rfl ki_1 ev70 (by omega) (by omega)
          refine lv_iinc (v := v70) (lv' := [(4, .int v70), (0, .ref h0), (1, .ref h1), (2, .ref h2), (3, .ref h3)]) hx hb dX1_know_75 hl (k := 0) rfl (by rw [ev70]; rfl) (by decide) rfl (fun ls hl => ?_)
          refine lv_goto (tgt := 11) hx hb dX1_know_78 (by decide) ?_
          exact ih30 v70 o_ruleo39 v45 o_creekso41 o_widowo42 o_faceso43 o_turno44 o_fieldo49 o_houseso50 f65 f69 o_f0o51 o_f1o52 o_f2o53 o_f3o54 o_f4o55 o_f5o56 o_f6o57 o_f7o58 o_f8o59 o_f9o60 (by omega) (by omega) w61 w62 w63 (by omega) _ _ (hP.sub [0, 1, 2, 13, 3, 14, 15, 16, 17, 18, 19, 20, 4, 21, 22, 5, 6, 7, 8, 9, 10, 11, 12, 23, 24] rfl) (hD.sub [0, 1, 2, 13, 3, 14, 15, 16, 17, 18, 19, 20, 4, 21, 22, 5, 6, 7, 8, 9, 10, 11, 12, 23, 24] rfl rfl) hS ls (lv_sub hl [0, 1, 2, 3, 4] rfl)
    exact lp2 129 0 u_rule u_walkers u_creeks u_widow u_faces u_turn s_field s_houses o_f0 o_f1 s_f0 s_f1 s_f2 s_f3 s_f4 s_f5 s_f6 s_f7 s_f8 s_f9 (by rw [ki_0]; decide) (by rw [ki_0]; decide) hl_s_houses hh_s_houses ha_s_f1 (by rw [ki_0]; decide) _ _ hP hD hS ls (lv_sub hl [0, 1, 2, 3, 4] rfl)
  · have c1 := i_ne rfl ki_0 c1
    exact hret _ _ _ _ (o_known, o_f0, o_f1, u_rule, u_walkers, u_creeks, u_widow, u_faces, u_turn, s_field, s_houses, s_f0, s_f1, s_f2, s_f3, s_f4, s_f5, s_f6, s_f7, s_f8, s_f9) hP hD hS dX1_know_7 (show 0 ≤ o_known.toInt ∧ o_known.toInt ≤ 1 ∧ 0 ≤ s_houses.toInt ∧ s_houses.toInt ≤ 6 ∧ ai s_f1 7 (-1) 40 from ⟨(by omega), hh_o_known, hl_s_houses, hh_s_houses, ha_s_f1⟩)
set_option maxHeartbeats 4000000 in
set_option maxRecDepth 100000 in
theorem f_X1_shareOf (l : Launch) (G : va_G) (cI cJ cZ cB cQ : ClassId) (sz : Nat) (h0 : Nat) (h1 : Nat) (p0 : Int32) (h2 : Nat) (b : Nat → Nat) (o_known : Int32) (o_f1 : Nat → Int32) (bc : Nat → Nat) (c_lines : Int32) (c_span : Int32) (c_rule : Int32) (c_odds : Int32) (c_wide : Int32) (c_high : Int32) (c_creeks : Int32) (c_houses : Int32) (c_widows : Int32) (c_acts : Int32) (r_above : Int64) (r_below : Int64) (qp0_l : 0 ≤ p0.toInt) (qp0_h : p0.toInt ≤ 6) (hl_o_known : 0 ≤ o_known.toInt) (hh_o_known : o_known.toInt ≤ 1) (hl_c_span : 0 ≤ c_span.toInt) (hh_c_span : c_span.toInt ≤ 12) (hl_c_rule : 0 ≤ c_rule.toInt) (hh_c_rule : c_rule.toInt ≤ 3) (hl_c_odds : 0 ≤ c_odds.toInt) (hh_c_odds : c_odds.toInt ≤ 10) (hl_c_wide : 0 ≤ c_wide.toInt) (hh_c_wide : c_wide.toInt ≤ 8) (hl_c_high : 0 ≤ c_high.toInt) (hh_c_high : c_high.toInt ≤ 8) (hl_c_creeks : 0 ≤ c_creeks.toInt) (hh_c_creeks : c_creeks.toInt ≤ 12) (hl_c_houses : 0 ≤ c_houses.toInt) (hh_c_houses : c_houses.toInt ≤ 6) (hl_c_widows : 0 ≤ c_widows.toInt) (hh_c_widows : c_widows.toInt ≤ 7) (hl_c_acts : 0 ≤ c_acts.toInt) (hh_c_acts : c_acts.toInt ≤ 30) : CV l yX1_shareOf (wl_ yX1_shareOf cX1_shareOf 10 none) ({ frames := 2, cells := 0, slots := 0, locals := 50 } : Room) G (TY cI cJ cZ cB cQ) [.ref h0, .ref h1, .int p0, .ref h2] [(h0, oX1 b o_known), (b 1, .inl (cI, 128, .inl o_f1)), (h1, oX0 bc c_lines c_span c_rule c_odds c_wide c_high c_creeks c_houses c_widows c_acts), (h2, oX2 z0 r_above r_below)] sz (fun (u : Int64 × Int64) => True) (fun u : Int64 × Int64 => [(h0, oX1 b o_known), (b 1, .inl (cI, 128, .inl o_f1)), (h1, oX0 bc c_lines c_span c_rule c_odds c_wide c_high c_creeks c_houses c_widows c_acts), (h2, oX2 z0 u.1 u.2)]) 0 0 := by
  refine CV.go (cc := cX1_shareOf) (maxL := 10) (ret := none) (by decide) rfl (Nat.le_of_ble_eq_true rfl) ?_
  intro p e s m below meth c A ls Q hBd hret
  obtain ⟨hx, hb, hr, hml, hts, hown, hlk, hnm, hP, hK, hD, hA, hZ, hl⟩ := hBd
  have hown : s.vm.findClass RX1 = some m.cls := hown
  have hl : lv_has ls 10 [(0, .ref h0), (1, .ref h1), (2, .int p0), (3, .ref h2)] := hl
  have hS : va_S A s.heap s.heap [] := va_S.rf
  refine lv_lconst (v := 0) hx hb dX1_shareOf_0 (by decide) ?_
  refine lv_lstore (lv' := [(4, .long 0), (0, .ref h0), (1, .ref h1), (2, .int p0), (3, .ref h2)]) hx hb dX1_shareOf_1 hl (by decide) rfl (fun ls hl => ?_)
  refine lv_iconst (v := 0) hx hb dX1_shareOf_3 (by decide) ?_
  refine lv_istore (lv' := [(6, .int 0), (4, .long 0), (0, .ref h0), (1, .ref h1), (2, .int p0), (3, .ref h2)]) hx hb dX1_shareOf_4 hl (by decide) rfl (fun ls hl => ?_)
  have lp1 : ∀ (n2 : Nat) (x3 : Int32) (y4 : Int64), 0 ≤ x3.toInt → x3.toInt ≤ 128 → 128 - x3.toInt < (n2 : Int) → ∀ (H : Heap) (locs : List Loc), va_P G vwCl [(h0, oX1 b o_known), (b 1, .inl (cI, 128, .inl o_f1)), (h1, oX0 bc c_lines c_span c_rule c_odds c_wide c_high c_creeks c_houses c_widows c_acts), (h2, oX2 z0 r_above r_below)] H → va_D A [(h0, oX1 b o_known), (b 1, .inl (cI, 128, .inl o_f1)), (h1, oX0 bc c_lines c_span c_rule c_odds c_wide c_high c_creeks c_houses c_widows c_acts), (h2, oX2 z0 r_above r_below)] → va_S A s.heap H locs → ∀ (ls : Array Slot), lv_has ls 10 [(6, .int x3), (4, .long y4), (0, .ref h0), (1, .ref h1), (2, .int p0), (3, .ref h2)] → W p l e ({ frames := 2, cells := 0, slots := 0, locals := 50 } : Room) s m ([.ref h0, .ref h1, .int p0, .ref h2] : List Value).toArray below meth c H locs 0 0 Q (F0 m 6 ls []) := by
    intro n2
    induction n2 with
    | zero =>
      intro x3 y4 k5 k6 mm8
      exact absurd mm8 (by have q9 := fb_rng x3; omega)
    | succ n2 ih7 =>
      intro x3 y4 k5 k6 mm8 H locs hP hD hS ls hl
      refine lv_iload hx hb dX1_shareOf_6 (lv_at hl 0 rfl) ?_
      refine lv_iconst (v := 1) hx hb dX1_shareOf_8 (by decide) ?_
      refine lv_aload_n hx hb dX1_shareOf_9 rfl (lv_at hl 3 rfl) ?_
      refine va_getN (D := G) (ci := 0) (v := .int c_widows) (C := RX0) (T := TX0) (N := 19) hx hb hts iG_X0 hown hK hP 2 rfl rfl 8 (by decide) (nz_use hZ nw_84 rfl) (fun _ h9 => h9) rfl dX1_shareOf_10 ?_
      refine lv_ishl hx hb dX1_shareOf_13 ?_
      refine lv_topi (fun v9 ev9 => ?_)
      obtain ⟨sa10, sb11⟩ : 1 ≤ v9.toInt ∧ v9.toInt ≤ 128 := shl1 7 rfl (by omega) (by omega) (by decide) ev9
      refine lv_icmp_ge (tgt := 87) hx hb dX1_shareOf_14 (by decide) (fun c12 => ?_) (fun c12 => ?_)
      · have c12 := i_le rfl rfl c12
        refine lv_aload_n hx hb dX1_shareOf_87 rfl (lv_at hl 5 rfl) ?_
        refine lv_lload hx hb dX1_shareOf_88 (lv_at hl 1 rfl) ?_
        refine lv_aload_n hx hb dX1_shareOf_90 rfl (lv_at hl 3 rfl) ?_
        refine va_getN (D := G) (ci := 0) (v := .int c_widows) (C := RX0) (T := TX0) (N := 19) hx hb hts iG_X0 hown hK hP 2 rfl rfl 8 (by decide) (nz_use hZ nw_84 rfl) (fun _ h9 => h9) rfl dX1_shareOf_91 ?_
        refine k_l (wc := []) (wr := [(h0, oX1 b o_known), (b 1, .inl (cI, 128, .inl o_f1)), (h1, oX0 bc c_lines c_span c_rule c_odds c_wide c_high c_creeks c_houses c_widows c_acts), (h2, oX2 z0 r_above r_below)]) hP hD hS hA [] [0, 1, 2, 3] rfl rfl rfl (by decide) (va_runS (As := [.int c_widows]) (rest := [.long y4, .ref h2]) ⟨hx, hb, hml, hown, hts⟩ (f_X1_orders l G cI cJ cZ cB cQ _ c_widows (by omega) (by omega)) (va_cwS 1 hts (gS w_1031 w_1032 w_7 w_1033) rfl rfl rfl hd_X1_orders ⟨Nat.le_of_ble_eq_true rfl, Nat.le_of_ble_eq_true rfl⟩) (mS hK hZ hP hD [] rfl rfl [.int c_widows]) rfl rfl hl.1 rfl (lv_room (Nat.le_of_ble_eq_true rfl)) dX1_shareOf_94 ⟨Nat.le_of_ble_eq_true rfl, Nat.le_of_ble_eq_true rfl⟩) (fun r13 u14 H locs hw15 hP hD hS => ?_)
        try dsimp only at hw15
        have hP : va_P G vwCl [(h0, oX1 b o_known), (b 1, .inl (cI, 128, .inl o_f1)), (h1, oX0 bc c_lines c_span c_rule c_odds c_wide c_high c_creeks c_houses c_widows c_acts), (h2, oX2 z0 r_above r_below)] H := hP
        have hD : va_D A [(h0, oX1 b o_known), (b 1, .inl (cI, 128, .inl o_f1)), (h1, oX0 bc c_lines c_span c_rule c_odds c_wide c_high c_creeks c_houses c_widows c_acts), (h2, oX2 z0 r_above r_below)] := hD
        refine k_v (wc := [(h2, oX2 z0 r_above r_below)]) (wr := [(h0, oX1 b o_known), (b 1, .inl (cI, 128, .inl o_f1)), (h1, oX0 bc c_lines c_span c_rule c_odds c_wide c_high c_creeks c_houses c_widows c_acts)]) hP hD hS hA [3] [0, 1, 2] rfl rfl rfl (by decide) (va_runVN (As := [.long y4, .long r13]) (rest := []) ⟨hx, hb, hml, hown, hts⟩ (f_X2_reduce l G cI cJ cZ cB cQ _ h2 y4 r13 r_above r_below) ⟨va_cnB (host := "WidowRoads") 2 hts (gW w_1037) rfl rfl rfl (nz_nw hZ nw_1034 rfl) (hts _ w_10) hd_X2_reduce ⟨Nat.le_of_ble_eq_true rfl, Nat.le_of_ble_eq_true rfl⟩, (hts _ w_1036), (hts _ wp_68)⟩ (mV hK hZ hP hD [3] rfl rfl [.long y4, .long r13] 3 2 rfl rfl) rfl rfl hl.1 rfl (lv_room (Nat.le_of_ble_eq_true rfl)) dX1_shareOf_97 ⟨Nat.le_of_ble_eq_true rfl, Nat.le_of_ble_eq_true rfl⟩) (fun u17 H locs hw18 hP hD hS => ?_)
        obtain ⟨o_aboveo19, o_belowo20⟩ := u17
        try dsimp only at hw18
        have hP : va_P G vwCl [(h0, oX1 b o_known), (b 1, .inl (cI, 128, .inl o_f1)), (h1, oX0 bc c_lines c_span c_rule c_odds c_wide c_high c_creeks c_houses c_widows c_acts), (h2, oX2 z0 o_aboveo19 o_belowo20)] H := hP
        have hD : va_D A [(h0, oX1 b o_known), (b 1, .inl (cI, 128, .inl o_f1)), (h1, oX0 bc c_lines c_span c_rule c_odds c_wide c_high c_creeks c_houses c_widows c_acts), (h2, oX2 z0 o_aboveo19 o_belowo20)] := hD
        exact hret _ _ _ _ (o_aboveo19, o_belowo20) hP hD hS dX1_shareOf_100 trivial
      · have c12 := i_nle rfl rfl c12
        refine lv_iload hx hb dX1_shareOf_17 (lv_at hl 0 rfl) ?_
        refine lv_iload_n hx hb dX1_shareOf_19 rfl (lv_at hl 4 rfl) ?_
        refine lv_ishr hx hb dX1_shareOf_20 ?_
        refine lv_topi (fun v21 ev21 => ?_)
        refine lv_iconst (v := 1) hx hb dX1_shareOf_21 (by decide) ?_
        refine lv_iand hx hb dX1_shareOf_22 ?_
        refine lv_topi (fun v22 ev22 => ?_)
        obtain ⟨sa23, sb24⟩ : 0 ≤ v22.toInt ∧ v22.toInt ≤ 1 := and_m 1 (by decide) (by decide) ev22
        refine lv_if_ne (tgt := 81) hx hb dX1_shareOf_23 (by decide) (fun c25 => ?_) (fun c25 => ?_)
        · have c25 := i_ne rfl ki_0 c25
          obtain ⟨v26, ev26⟩ : ∃ y : Int32, y = x3 + 1 := ⟨_, rfl⟩
          have tv26 : v26.toInt = x3.toInt + 1 := ti_add rfl ki_1 ev26 (by omega) (by omega)
          refine lv_iinc (v := v26) (lv' := [(6, .int v26), (4, .long y4), (0, .ref h0), (1, .ref h1), (2, .int p0), (3, .ref h2)]) hx hb dX1_shareOf_81 hl (k := 0) rfl (by rw [ev26]; rfl) (by decide) rfl (fun ls hl => ?_)
          refine lv_goto (tgt := 6) hx hb dX1_shareOf_84 (by decide) ?_
          exact ih7 v26 y4 (by omega) (by omega) (by omega) _ _ hP hD hS ls (lv_sub hl [0, 1, 2, 3, 4, 5] rfl)
        · have c25 := i_eq rfl ki_0 c25
          refine lv_iload hx hb dX1_shareOf_26 (lv_at hl 0 rfl) ?_
          refine k_i (wc := []) (wr := [(h0, oX1 b o_known), (b 1, .inl (cI, 128, .inl o_f1)), (h1, oX0 bc c_lines c_span c_rule c_odds c_wide c_high c_creeks c_houses c_widows c_acts), (h2, oX2 z0 r_above r_below)]) hP hD hS hA [] [0, 1, 2, 3] rfl rfl rfl (by decide) (va_runS (As := [.int x3]) (rest := []) ⟨hx, hb, hml, hown, hts⟩ (f_J6_bitCount_0f7a4 l G cI cJ cZ cB cQ _ x3) (va_cwS 1 hts (gS w_1030 w_798 w_19 w_799) rfl rfl rfl hd_J6_bitCount_0f7a4 ⟨Nat.le_of_ble_eq_true rfl, Nat.le_of_ble_eq_true rfl⟩) (mS hK hZ hP hD [] rfl rfl [.int x3]) rfl rfl hl.1 rfl (lv_room (Nat.le_of_ble_eq_true rfl)) dX1_shareOf_28 ⟨Nat.le_of_ble_eq_true rfl, Nat.le_of_ble_eq_true rfl⟩) (fun r27 u28 H locs hw29 hP hD hS => ?_)
          try dsimp only at hw29
          have hP : va_P G vwCl [(h0, oX1 b o_known), (b 1, .inl (cI, 128, .inl o_f1)), (h1, oX0 bc c_lines c_span c_rule c_odds c_wide c_high c_creeks c_houses c_widows c_acts), (h2, oX2 z0 r_above r_below)] H := hP
          have hD : va_D A [(h0, oX1 b o_known), (b 1, .inl (cI, 128, .inl o_f1)), (h1, oX0 bc c_lines c_span c_rule c_odds c_wide c_high c_creeks c_houses c_widows c_acts), (h2, oX2 z0 r_above r_below)] := hD
          obtain ⟨w30, w31⟩ : 0 ≤ r27.toInt ∧ r27.toInt ≤ 63 := hw29
          refine lv_istore (lv' := [(7, .int r27), (6, .int x3), (4, .long y4), (0, .ref h0), (1, .ref h1), (2, .int p0), (3, .ref h2)]) hx hb dX1_shareOf_31 hl (by decide) rfl (fun ls hl => ?_)
          refine lv_iload hx hb dX1_shareOf_33 (lv_at hl 0 rfl) ?_
          refine k_l (wc := []) (wr := [(h0, oX1 b o_known), (b 1, .inl (cI, 128, .inl o_f1)), (h1, oX0 bc c_lines c_span c_rule c_odds c_wide c_high c_creeks c_houses c_widows c_acts), (h2, oX2 z0 r_above r_below)]) hP hD hS hA [] [0, 1, 2, 3] rfl rfl rfl (by decide) (va_runS (As := [.int r27]) (rest := []) ⟨hx, hb, hml, hown, hts⟩ (f_X1_orders l G cI cJ cZ cB cQ _ r27 (by omega) (by omega)) (va_cwS 1 hts (gS w_1031 w_1032 w_7 w_1033) rfl rfl rfl hd_X1_orders ⟨Nat.le_of_ble_eq_true rfl, Nat.le_of_ble_eq_true rfl⟩) (mS hK hZ hP hD [] rfl rfl [.int r27]) rfl rfl hl.1 rfl (lv_room (Nat.le_of_ble_eq_true rfl)) dX1_shareOf_35 ⟨Nat.le_of_ble_eq_true rfl, Nat.le_of_ble_eq_true rfl⟩) (fun r32 u33 H locs hw34 hP hD hS => ?_)
          try dsimp only at hw34
          have hP : va_P G vwCl [(h0, oX1 b o_known), (b 1, .inl (cI, 128, .inl o_f1)), (h1, oX0 bc c_lines c_span c_rule c_odds c_wide c_high c_creeks c_houses c_widows c_acts), (h2, oX2 z0 r_above r_below)] H := hP
          have hD : va_D A [(h0, oX1 b o_known), (b 1, .inl (cI, 128, .inl o_f1)), (h1, oX0 bc c_lines c_span c_rule c_odds c_wide c_high c_creeks c_houses c_widows c_acts), (h2, oX2 z0 r_above r_below)] := hD
          refine lv_aload_n hx hb dX1_shareOf_38 rfl (lv_at hl 4 rfl) ?_
          refine va_getN (D := G) (ci := 0) (v := .int c_widows) (C := RX0) (T := TX0) (N := 19) hx hb hts iG_X0 hown hK hP 2 rfl rfl 8 (by decide) (nz_use hZ nw_84 rfl) (fun _ h9 => h9) rfl dX1_shareOf_39 ?_
          refine lv_iconst (v := 1) hx hb dX1_shareOf_42 (by decide) ?_
          refine lv_isub hx hb dX1_shareOf_43 ?_
          refine lv_topi (fun v35 ev35 => ?_)
          have tv35 : v35.toInt = c_widows.toInt - 1 := ti_sub rfl ki_1 ev35 (by omega) (by omega)
          refine lv_iload hx hb dX1_shareOf_44 (lv_at hl 0 rfl) ?_
          refine lv_isub hx hb dX1_shareOf_46 ?_
          refine lv_topi (fun v36 ev36 => ?_)
          have tv36 : v36.toInt = (c_widows.toInt - 1) - r27.toInt := ti_sub tv35 rfl ev36 (by omega) (by omega)
          refine k_l (wc := []) (wr := [(h0, oX1 b o_known), (b 1, .inl (cI, 128, .inl o_f1)), (h1, oX0 bc c_lines c_span c_rule c_odds c_wide c_high c_creeks c_houses c_widows c_acts), (h2, oX2 z0 r_above r_below)]) hP hD hS hA [] [0, 1, 2, 3] rfl rfl rfl (by decide) (va_runS (As := [.int v36]) (rest := [.long r32]) ⟨hx, hb, hml, hown, hts⟩ (f_X1_orders l G cI cJ cZ cB cQ _ v36 (by omega) (by omega)) (va_cwS 1 hts (gS w_1031 w_1032 w_7 w_1033) rfl rfl rfl hd_X1_orders ⟨Nat.le_of_ble_eq_true rfl, Nat.le_of_ble_eq_true rfl⟩) (mS hK hZ hP hD [] rfl rfl [.int v36]) rfl rfl hl.1 rfl (lv_room (Nat.le_of_ble_eq_true rfl)) dX1_shareOf_47 ⟨Nat.le_of_ble_eq_true rfl, Nat.le_of_ble_eq_true rfl⟩) (fun r37 u38 H locs hw39 hP hD hS => ?_)
          try dsimp only at hw39
          have hP : va_P G vwCl [(h0, oX1 b o_known), (b 1, .inl (cI, 128, .inl o_f1)), (h1, oX0 bc c_lines c_span c_rule c_odds c_wide c_high c_creeks c_houses c_widows c_acts), (h2, oX2 z0 r_above r_below)] H := hP
          have hD : va_D A [(h0, oX1 b o_known), (b 1, .inl (cI, 128, .inl o_f1)), (h1, oX0 bc c_lines c_span c_rule c_odds c_wide c_high c_creeks c_houses c_widows c_acts), (h2, oX2 z0 r_above r_below)] := hD
          refine lv_lmul hx hb dX1_shareOf_50 ?_
          refine lv_topl (fun v40 ev40 => ?_)
          refine lv_lstore (lv' := [(8, .long v40), (7, .int r27), (6, .int x3), (4, .long y4), (0, .ref h0), (1, .ref h1), (2, .int p0), (3, .ref h2)]) hx hb dX1_shareOf_51 hl (by decide) rfl (fun ls hl => ?_)
          refine lv_lload hx hb dX1_shareOf_53 (lv_at hl 3 rfl) ?_
          refine lv_lload hx hb dX1_shareOf_55 (lv_at hl 0 rfl) ?_
          refine lv_aload_n hx hb dX1_shareOf_57 rfl (lv_at hl 4 rfl) ?_
          refine va_get (D := G) (ci := 1) (v := .ref (b 1)) (C := RX1) (T := TX1) (N := 3) hx hb hts iG_X1 hown hK hP 0 rfl rfl 1 (by decide) (hts _ w_289) (fun _ h9 => h9) rfl dX1_shareOf_58 ?_
          refine lv_iload hx hb dX1_shareOf_61 (lv_at hl 2 rfl) ?_
          refine lv_iconst (v := 1) hx hb dX1_shareOf_63 (by decide) ?_
          refine lv_iload_n hx hb dX1_shareOf_64 rfl (lv_at hl 6 rfl) ?_
          refine lv_ishl hx hb dX1_shareOf_65 ?_
          refine lv_topi (fun v41 ev41 => ?_)
          obtain ⟨sa42, sb43⟩ : 1 ≤ v41.toInt ∧ v41.toInt ≤ 64 := shl1 6 rfl (by omega) (by omega) (by decide) ev41
          refine lv_ior hx hb dX1_shareOf_66 ?_
          refine lv_topi (fun v44 ev44 => ?_)
          obtain ⟨sa45, sb46⟩ : 0 ≤ v44.toInt ∧ v44.toInt ≤ 127 := or_m 7 rfl rfl (by omega) (by omega) (by omega) (by omega) (by decide) ev44
          refine va_iald hx hb hK hP 1 0 rfl rfl (ix_in rfl (by omega) (by omega)) dX1_shareOf_67 ?_
          refine lv_topi (fun v47 ev47 => ?_)
          refine lv_aload_n hx hb dX1_shareOf_68 rfl (lv_at hl 4 rfl) ?_
          refine va_get (D := G) (ci := 1) (v := .ref (b 1)) (C := RX1) (T := TX1) (N := 3) hx hb hts iG_X1 hown hK hP 0 rfl rfl 1 (by decide) (hts _ w_289) (fun _ h9 => h9) rfl dX1_shareOf_69 ?_
          refine lv_iload hx hb dX1_shareOf_72 (lv_at hl 2 rfl) ?_
          refine va_iald hx hb hK hP 1 0 rfl rfl (ix_in rfl (by omega) (by omega)) dX1_shareOf_74 ?_
          refine lv_topi (fun v48 ev48 => ?_)
          refine lv_isub hx hb dX1_shareOf_75 ?_
          refine lv_topi (fun v49 ev49 => ?_)
          obtain ⟨v50, ev50⟩ : ∃ y : Int64, v49.toInt64 = y := ⟨_, rfl⟩
          have tv50 : v50.toInt = v49.toInt := ti_wide rfl ev50
          refine lv_i2l (v := v50) hx hb dX1_shareOf_76 ev50 ?_
          refine lv_lmul hx hb dX1_shareOf_77 ?_
          refine lv_topl (fun v51 ev51 => ?_)
          refine lv_ladd hx hb dX1_shareOf_78 ?_
          refine lv_topl (fun v52 ev52 => ?_)
          refine lv_lstore (lv' := [(4, .long v52), (8, .long v40), (7, .int r27), (6, .int x3), (0, .ref h0), (1, .ref h1), (2, .int p0), (3, .ref h2)]) hx hb dX1_shareOf_79 hl (by decide) rfl (fun ls hl => ?_)
          obtain ⟨v53, ev53⟩ : ∃ y : Int32, y = x3 + 1 := ⟨_, rfl⟩
          have tv53 : v53.toInt = x3.toInt + 1 := ti_add rfl ki_1 ev53 (by omega) (by omega)
          refine lv_iinc (v := v53) (lv' := [(6, .int v53), (4, .long v52), (8, .long v40), (7, .int r27), (0, .ref h0), (1, .ref h1), (2, .int p0), (3, .ref h2)]) hx hb dX1_shareOf_81 hl (k := 3) rfl (by rw [ev53]; rfl) (by decide) rfl (fun ls hl => ?_)
          refine lv_goto (tgt := 6) hx hb dX1_shareOf_84 (by decide) ?_
          exact ih7 v53 v52 (by omega) (by omega) (by omega) _ _ hP hD hS ls (lv_sub hl [0, 1, 4, 5, 6, 7] rfl)
  exact lp1 129 0 0 (by rw [ki_0]; decide) (by rw [ki_0]; decide) (by rw [ki_0]; decide) _ _ hP hD hS ls (lv_sub hl [0, 1, 2, 3, 4, 5] rfl)
set_option maxHeartbeats 4000000 in
set_option maxRecDepth 100000 in
theorem f_X1_chanceOfRoad (l : Launch) (G : va_G) (cI cJ cZ cB cQ : ClassId) (sz : Nat) (h0 : Nat) (h1 : Nat) (p0 : Int32) (h2 : Nat) (b : Nat → Nat) (o_known : Int32) (o_f0 : Nat → Int64) (bc : Nat → Nat) (c_lines : Int32) (c_span : Int32) (c_rule : Int32) (c_odds : Int32) (c_wide : Int32) (c_high : Int32) (c_creeks : Int32) (c_houses : Int32) (c_widows : Int32) (c_acts : Int32) (r_above : Int64) (r_below : Int64) (hl_o_known : 0 ≤ o_known.toInt) (hh_o_known : o_known.toInt ≤ 1) (hl_c_span : 0 ≤ c_span.toInt) (hh_c_span : c_span.toInt ≤ 12) (hl_c_rule : 0 ≤ c_rule.toInt) (hh_c_rule : c_rule.toInt ≤ 3) (hl_c_odds : 0 ≤ c_odds.toInt) (hh_c_odds : c_odds.toInt ≤ 10) (hl_c_wide : 0 ≤ c_wide.toInt) (hh_c_wide : c_wide.toInt ≤ 8) (hl_c_high : 0 ≤ c_high.toInt) (hh_c_high : c_high.toInt ≤ 8) (hl_c_creeks : 0 ≤ c_creeks.toInt) (hh_c_creeks : c_creeks.toInt ≤ 12) (hl_c_houses : 0 ≤ c_houses.toInt) (hh_c_houses : c_houses.toInt ≤ 6) (hl_c_widows : 0 ≤ c_widows.toInt) (hh_c_widows : c_widows.toInt ≤ 7) (hl_c_acts : 0 ≤ c_acts.toInt) (hh_c_acts : c_acts.toInt ≤ 30) : CV l yX1_chanceOfRoad (wl_ yX1_chanceOfRoad cX1_chanceOfRoad 7 none) ({ frames := 2, cells := 0, slots := 0, locals := 50 } : Room) G (TY cI cJ cZ cB cQ) [.ref h0, .ref h1, .int p0, .ref h2] [(h0, oX1 b o_known), (b 0, .inl (cJ, 128, .inr (.inl o_f0))), (h1, oX0 bc c_lines c_span c_rule c_odds c_wide c_high c_creeks c_houses c_widows c_acts), (h2, oX2 z0 r_above r_below)] sz (fun (u : Int64 × Int64) => True) (fun u : Int64 × Int64 => [(h0, oX1 b o_known), (b 0, .inl (cJ, 128, .inr (.inl o_f0))), (h1, oX0 bc c_lines c_span c_rule c_odds c_wide c_high c_creeks c_houses c_widows c_acts), (h2, oX2 z0 u.1 u.2)]) 0 0 := by
  refine CV.go (cc := cX1_chanceOfRoad) (maxL := 7) (ret := none) (by decide) rfl (Nat.le_of_ble_eq_true rfl) ?_
  intro p e s m below meth c A ls Q hBd hret
  obtain ⟨hx, hb, hr, hml, hts, hown, hlk, hnm, hP, hK, hD, hA, hZ, hl⟩ := hBd
  have hown : s.vm.findClass RX1 = some m.cls := hown
  have hl : lv_has ls 7 [(0, .ref h0), (1, .ref h1), (2, .int p0), (3, .ref h2)] := hl
  have hS : va_S A s.heap s.heap [] := va_S.rf
  refine lv_lconst (v := 0) hx hb dX1_chanceOfRoad_0 (by decide) ?_
  refine lv_lstore (lv' := [(4, .long 0), (0, .ref h0), (1, .ref h1), (2, .int p0), (3, .ref h2)]) hx hb dX1_chanceOfRoad_1 hl (by decide) rfl (fun ls hl => ?_)
  refine lv_iconst (v := 0) hx hb dX1_chanceOfRoad_3 (by decide) ?_
  refine lv_istore (lv' := [(6, .int 0), (4, .long 0), (0, .ref h0), (1, .ref h1), (2, .int p0), (3, .ref h2)]) hx hb dX1_chanceOfRoad_4 hl (by decide) rfl (fun ls hl => ?_)
  have lp1 : ∀ (n2 : Nat) (x3 : Int32) (y4 : Int64), 0 ≤ x3.toInt → x3.toInt ≤ 128 → 128 - x3.toInt < (n2 : Int) → ∀ (H : Heap) (locs : List Loc), va_P G vwCl [(h0, oX1 b o_known), (b 0, .inl (cJ, 128, .inr (.inl o_f0))), (h1, oX0 bc c_lines c_span c_rule c_odds c_wide c_high c_creeks c_houses c_widows c_acts), (h2, oX2 z0 r_above r_below)] H → va_D A [(h0, oX1 b o_known), (b 0, .inl (cJ, 128, .inr (.inl o_f0))), (h1, oX0 bc c_lines c_span c_rule c_odds c_wide c_high c_creeks c_houses c_widows c_acts), (h2, oX2 z0 r_above r_below)] → va_S A s.heap H locs → ∀ (ls : Array Slot), lv_has ls 7 [(6, .int x3), (4, .long y4), (0, .ref h0), (1, .ref h1), (2, .int p0), (3, .ref h2)] → W p l e ({ frames := 2, cells := 0, slots := 0, locals := 50 } : Room) s m ([.ref h0, .ref h1, .int p0, .ref h2] : List Value).toArray below meth c H locs 0 0 Q (F0 m 6 ls []) := by
    intro n2
    induction n2 with
    | zero =>
      intro x3 y4 k5 k6 mm8
      exact absurd mm8 (by have q9 := fb_rng x3; omega)
    | succ n2 ih7 =>
      intro x3 y4 k5 k6 mm8 H locs hP hD hS ls hl
      refine lv_iload hx hb dX1_chanceOfRoad_6 (lv_at hl 0 rfl) ?_
      refine lv_iconst (v := 1) hx hb dX1_chanceOfRoad_8 (by decide) ?_
      refine lv_aload_n hx hb dX1_chanceOfRoad_9 rfl (lv_at hl 3 rfl) ?_
      refine va_getN (D := G) (ci := 0) (v := .int c_widows) (C := RX0) (T := TX0) (N := 19) hx hb hts iG_X0 hown hK hP 2 rfl rfl 8 (by decide) (nz_use hZ nw_84 rfl) (fun _ h9 => h9) rfl dX1_chanceOfRoad_10 ?_
      refine lv_ishl hx hb dX1_chanceOfRoad_13 ?_
      refine lv_topi (fun v9 ev9 => ?_)
      obtain ⟨sa10, sb11⟩ : 1 ≤ v9.toInt ∧ v9.toInt ≤ 128 := shl1 7 rfl (by omega) (by omega) (by decide) ev9
      refine lv_icmp_ge (tgt := 48) hx hb dX1_chanceOfRoad_14 (by decide) (fun c12 => ?_) (fun c12 => ?_)
      · have c12 := i_le rfl rfl c12
        refine lv_aload_n hx hb dX1_chanceOfRoad_48 rfl (lv_at hl 5 rfl) ?_
        refine lv_lload hx hb dX1_chanceOfRoad_49 (lv_at hl 1 rfl) ?_
        refine lv_bipush (v := 10) hx hb dX1_chanceOfRoad_51 (by decide) ?_
        refine lv_aload_n hx hb dX1_chanceOfRoad_53 rfl (lv_at hl 3 rfl) ?_
        refine va_getN (D := G) (ci := 0) (v := .int c_widows) (C := RX0) (T := TX0) (N := 19) hx hb hts iG_X0 hown hK hP 2 rfl rfl 8 (by decide) (nz_use hZ nw_84 rfl) (fun _ h9 => h9) rfl dX1_chanceOfRoad_54 ?_
        refine k_l (wc := []) (wr := [(h0, oX1 b o_known), (b 0, .inl (cJ, 128, .inr (.inl o_f0))), (h1, oX0 bc c_lines c_span c_rule c_odds c_wide c_high c_creeks c_houses c_widows c_acts), (h2, oX2 z0 r_above r_below)]) hP hD hS hA [] [0, 1, 2, 3] rfl rfl rfl (by decide) (va_runS (As := [.int 10, .int c_widows]) (rest := [.long y4, .ref h2]) ⟨hx, hb, hml, hown, hts⟩ (f_X1_power l G cI cJ cZ cB cQ _ 10 c_widows (by omega) (by omega)) (va_cwS 2 hts (gS w_1082 w_1083 w_7 w_1084) rfl rfl rfl hd_X1_power ⟨Nat.le_of_ble_eq_true rfl, Nat.le_of_ble_eq_true rfl⟩) (mS hK hZ hP hD [] rfl rfl [.int 10, .int c_widows]) rfl rfl hl.1 rfl (lv_room (Nat.le_of_ble_eq_true rfl)) dX1_chanceOfRoad_57 ⟨Nat.le_of_ble_eq_true rfl, Nat.le_of_ble_eq_true rfl⟩) (fun r13 u14 H locs hw15 hP hD hS => ?_)
        try dsimp only at hw15
        have hP : va_P G vwCl [(h0, oX1 b o_known), (b 0, .inl (cJ, 128, .inr (.inl o_f0))), (h1, oX0 bc c_lines c_span c_rule c_odds c_wide c_high c_creeks c_houses c_widows c_acts), (h2, oX2 z0 r_above r_below)] H := hP
        have hD : va_D A [(h0, oX1 b o_known), (b 0, .inl (cJ, 128, .inr (.inl o_f0))), (h1, oX0 bc c_lines c_span c_rule c_odds c_wide c_high c_creeks c_houses c_widows c_acts), (h2, oX2 z0 r_above r_below)] := hD
        refine k_v (wc := [(h2, oX2 z0 r_above r_below)]) (wr := [(h0, oX1 b o_known), (b 0, .inl (cJ, 128, .inr (.inl o_f0))), (h1, oX0 bc c_lines c_span c_rule c_odds c_wide c_high c_creeks c_houses c_widows c_acts)]) hP hD hS hA [3] [0, 1, 2] rfl rfl rfl (by decide) (va_runVN (As := [.long y4, .long r13]) (rest := []) ⟨hx, hb, hml, hown, hts⟩ (f_X2_reduce l G cI cJ cZ cB cQ _ h2 y4 r13 r_above r_below) ⟨va_cnB (host := "WidowRoads") 2 hts (gW w_1037) rfl rfl rfl (nz_nw hZ nw_1034 rfl) (hts _ w_10) hd_X2_reduce ⟨Nat.le_of_ble_eq_true rfl, Nat.le_of_ble_eq_true rfl⟩, (hts _ w_1036), (hts _ wp_68)⟩ (mV hK hZ hP hD [3] rfl rfl [.long y4, .long r13] 3 2 rfl rfl) rfl rfl hl.1 rfl (lv_room (Nat.le_of_ble_eq_true rfl)) dX1_chanceOfRoad_60 ⟨Nat.le_of_ble_eq_true rfl, Nat.le_of_ble_eq_true rfl⟩) (fun u17 H locs hw18 hP hD hS => ?_)
        obtain ⟨o_aboveo19, o_belowo20⟩ := u17
        try dsimp only at hw18
        have hP : va_P G vwCl [(h0, oX1 b o_known), (b 0, .inl (cJ, 128, .inr (.inl o_f0))), (h1, oX0 bc c_lines c_span c_rule c_odds c_wide c_high c_creeks c_houses c_widows c_acts), (h2, oX2 z0 o_aboveo19 o_belowo20)] H := hP
        have hD : va_D A [(h0, oX1 b o_known), (b 0, .inl (cJ, 128, .inr (.inl o_f0))), (h1, oX0 bc c_lines c_span c_rule c_odds c_wide c_high c_creeks c_houses c_widows c_acts), (h2, oX2 z0 o_aboveo19 o_belowo20)] := hD
        exact hret _ _ _ _ (o_aboveo19, o_belowo20) hP hD hS dX1_chanceOfRoad_63 trivial
      · have c12 := i_nle rfl rfl c12
        refine lv_aload_n hx hb dX1_chanceOfRoad_17 rfl (lv_at hl 2 rfl) ?_
        refine va_get (D := G) (ci := 1) (v := .ref (b 0)) (C := RX1) (T := TX1) (N := 3) hx hb hts iG_X1 hown hK hP 0 rfl rfl 0 (by decide) (hts _ w_288) (fun _ h9 => h9) rfl dX1_chanceOfRoad_18 ?_
        refine lv_iload hx hb dX1_chanceOfRoad_21 (lv_at hl 0 rfl) ?_
        refine va_lald hx hb hK hP 1 1 rfl rfl (ix_in rfl (by omega) (by omega)) dX1_chanceOfRoad_23 ?_
        refine lv_topl (fun v21 ev21 => ?_)
        refine lv_iload_n hx hb dX1_chanceOfRoad_24 rfl (lv_at hl 4 rfl) ?_
        refine k_i (wc := []) (wr := [(h0, oX1 b o_known), (b 0, .inl (cJ, 128, .inr (.inl o_f0))), (h1, oX0 bc c_lines c_span c_rule c_odds c_wide c_high c_creeks c_houses c_widows c_acts), (h2, oX2 z0 r_above r_below)]) hP hD hS hA [] [0, 1, 2, 3] rfl rfl rfl (by decide) (va_runSN (As := [.long v21, .int p0]) (rest := []) ⟨hx, hb, hml, hown, hts⟩ (f_X9_has l G cI cJ cZ cB cQ _ v21 p0) ⟨va_cnB (host := "WidowRoads") 2 hts (gW w_527) rfl rfl rfl (nz_nw hZ nw_1078 rfl) (hts _ w_1) hd_X9_has ⟨Nat.le_of_ble_eq_true rfl, Nat.le_of_ble_eq_true rfl⟩, (hts _ w_526), trivial⟩ (mS hK hZ hP hD [] rfl rfl [.long v21, .int p0]) rfl rfl hl.1 rfl (lv_room (Nat.le_of_ble_eq_true rfl)) dX1_chanceOfRoad_25 ⟨Nat.le_of_ble_eq_true rfl, Nat.le_of_ble_eq_true rfl⟩) (fun r22 u23 H locs hw24 hP hD hS => ?_)
        try dsimp only at hw24
        have hP : va_P G vwCl [(h0, oX1 b o_known), (b 0, .inl (cJ, 128, .inr (.inl o_f0))), (h1, oX0 bc c_lines c_span c_rule c_odds c_wide c_high c_creeks c_houses c_widows c_acts), (h2, oX2 z0 r_above r_below)] H := hP
        have hD : va_D A [(h0, oX1 b o_known), (b 0, .inl (cJ, 128, .inr (.inl o_f0))), (h1, oX0 bc c_lines c_span c_rule c_odds c_wide c_high c_creeks c_houses c_widows c_acts), (h2, oX2 z0 r_above r_below)] := hD
        obtain ⟨w25, w26⟩ : 0 ≤ r22.toInt ∧ r22.toInt ≤ 1 := hw24
        refine lv_if_eq (tgt := 42) hx hb dX1_chanceOfRoad_28 (by decide) (fun c27 => ?_) (fun c27 => ?_)
        · have c27 := i_eq rfl ki_0 c27
          obtain ⟨v28, ev28⟩ : ∃ y : Int32, y = x3 + 1 := ⟨_, rfl⟩
          have tv28 : v28.toInt = x3.toInt + 1 := ti_add rfl ki_1 ev28 (by omega) (by omega)
          refine lv_iinc (v := v28) (lv' := [(6, .int v28), (4, .long y4), (0, .ref h0), (1, .ref h1), (2, .int p0), (3, .ref h2)]) hx hb dX1_chanceOfRoad_42 hl (k := 0) rfl (by rw [ev28]; rfl) (by decide) rfl (fun ls hl => ?_)
          refine lv_goto (tgt := 6) hx hb dX1_chanceOfRoad_45 (by decide) ?_
          exact ih7 v28 y4 (by omega) (by omega) (by omega) _ _ hP hD hS ls (lv_sub hl [0, 1, 2, 3, 4, 5] rfl)
        · have c27 := i_ne rfl ki_0 c27
          refine lv_lload hx hb dX1_chanceOfRoad_31 (lv_at hl 1 rfl) ?_
          refine lv_aload_n hx hb dX1_chanceOfRoad_33 rfl (lv_at hl 3 rfl) ?_
          refine lv_iload hx hb dX1_chanceOfRoad_34 (lv_at hl 0 rfl) ?_
          refine k_l (wc := [(h1, oX0 bc c_lines c_span c_rule c_odds c_wide c_high c_creeks c_houses c_widows c_acts)]) (wr := [(h0, oX1 b o_known), (b 0, .inl (cJ, 128, .inr (.inl o_f0))), (h2, oX2 z0 r_above r_below)]) hP hD hS hA [2] [0, 1, 3] rfl rfl rfl (by decide) (va_runS (As := [.ref h1, .int x3]) (rest := [.long y4]) ⟨hx, hb, hml, hown, hts⟩ (f_X1_weight l G cI cJ cZ cB cQ _ h1 x3 bc c_lines c_span c_rule c_odds c_wide c_high c_creeks c_houses c_widows c_acts hl_c_span hh_c_span hl_c_rule hh_c_rule hl_c_odds hh_c_odds hl_c_wide hh_c_wide hl_c_high hh_c_high hl_c_creeks hh_c_creeks hl_c_houses hh_c_houses hl_c_widows hh_c_widows hl_c_acts hh_c_acts) (va_cwS 2 hts (gS w_1079 w_1080 w_7 w_1081) rfl rfl rfl hd_X1_weight ⟨Nat.le_of_ble_eq_true rfl, Nat.le_of_ble_eq_true rfl⟩) (mS hK hZ hP hD [2] rfl rfl [.ref h1, .int x3]) rfl rfl hl.1 rfl (lv_room (Nat.le_of_ble_eq_true rfl)) dX1_chanceOfRoad_36 ⟨Nat.le_of_ble_eq_true rfl, Nat.le_of_ble_eq_true rfl⟩) (fun r29 u30 H locs hw31 hP hD hS => ?_)
          try dsimp only at hw31
          have hP : va_P G vwCl [(h0, oX1 b o_known), (b 0, .inl (cJ, 128, .inr (.inl o_f0))), (h2, oX2 z0 r_above r_below), (h1, oX0 bc c_lines c_span c_rule c_odds c_wide c_high c_creeks c_houses c_widows c_acts)] H := hP
          have hD : va_D A [(h0, oX1 b o_known), (b 0, .inl (cJ, 128, .inr (.inl o_f0))), (h2, oX2 z0 r_above r_below), (h1, oX0 bc c_lines c_span c_rule c_odds c_wide c_high c_creeks c_houses c_widows c_acts)] := hD
          refine lv_ladd hx hb dX1_chanceOfRoad_39 ?_
          refine lv_topl (fun v32 ev32 => ?_)
          refine lv_lstore (lv' := [(4, .long v32), (6, .int x3), (0, .ref h0), (1, .ref h1), (2, .int p0), (3, .ref h2)]) hx hb dX1_chanceOfRoad_40 hl (by decide) rfl (fun ls hl => ?_)
          obtain ⟨v33, ev33⟩ : ∃ y : Int32, y = x3 + 1 := ⟨_, rfl⟩
          have tv33 : v33.toInt = x3.toInt + 1 := ti_add rfl ki_1 ev33 (by omega) (by omega)
          refine lv_iinc (v := v33) (lv' := [(6, .int v33), (4, .long v32), (0, .ref h0), (1, .ref h1), (2, .int p0), (3, .ref h2)]) hx hb dX1_chanceOfRoad_42 hl (k := 1) rfl (by rw [ev33]; rfl) (by decide) rfl (fun ls hl => ?_)
          refine lv_goto (tgt := 6) hx hb dX1_chanceOfRoad_45 (by decide) ?_
          exact ih7 v33 v32 (by omega) (by omega) (by omega) _ _ (hP.sub [0, 1, 3, 2] rfl) (hD.sub [0, 1, 3, 2] rfl rfl) hS ls (lv_sub hl [0, 1, 2, 3, 4, 5] rfl)
  exact lp1 129 0 0 (by rw [ki_0]; decide) (by rw [ki_0]; decide) (by rw [ki_0]; decide) _ _ hP hD hS ls (lv_sub hl [0, 1, 2, 3, 4, 5] rfl)
set_option maxHeartbeats 4000000 in
set_option maxRecDepth 100000 in
theorem f_X1_meanOfPegs (l : Launch) (G : va_G) (cI cJ cZ cB cQ : ClassId) (sz : Nat) (h0 : Nat) (h1 : Nat) (h2 : Nat) (b : Nat → Nat) (o_known : Int32) (o_f1 : Nat → Int32) (bc : Nat → Nat) (c_lines : Int32) (c_span : Int32) (c_rule : Int32) (c_odds : Int32) (c_wide : Int32) (c_high : Int32) (c_creeks : Int32) (c_houses : Int32) (c_widows : Int32) (c_acts : Int32) (r_above : Int64) (r_below : Int64) (hl_o_known : 0 ≤ o_known.toInt) (hh_o_known : o_known.toInt ≤ 1) (hl_c_span : 0 ≤ c_span.toInt) (hh_c_span : c_span.toInt ≤ 12) (hl_c_rule : 0 ≤ c_rule.toInt) (hh_c_rule : c_rule.toInt ≤ 3) (hl_c_odds : 0 ≤ c_odds.toInt) (hh_c_odds : c_odds.toInt ≤ 10) (hl_c_wide : 0 ≤ c_wide.toInt) (hh_c_wide : c_wide.toInt ≤ 8) (hl_c_high : 0 ≤ c_high.toInt) (hh_c_high : c_high.toInt ≤ 8) (hl_c_creeks : 0 ≤ c_creeks.toInt) (hh_c_creeks : c_creeks.toInt ≤ 12) (hl_c_houses : 0 ≤ c_houses.toInt) (hh_c_houses : c_houses.toInt ≤ 6) (hl_c_widows : 0 ≤ c_widows.toInt) (hh_c_widows : c_widows.toInt ≤ 7) (hl_c_acts : 0 ≤ c_acts.toInt) (hh_c_acts : c_acts.toInt ≤ 30) : CV l yX1_meanOfPegs (wl_ yX1_meanOfPegs cX1_meanOfPegs 6 none) ({ frames := 2, cells := 0, slots := 0, locals := 50 } : Room) G (TY cI cJ cZ cB cQ) [.ref h0, .ref h1, .ref h2] [(h0, oX1 b o_known), (b 1, .inl (cI, 128, .inl o_f1)), (h1, oX0 bc c_lines c_span c_rule c_odds c_wide c_high c_creeks c_houses c_widows c_acts), (h2, oX2 z0 r_above r_below)] sz (fun (u : Int64 × Int64) => True) (fun u : Int64 × Int64 => [(h0, oX1 b o_known), (b 1, .inl (cI, 128, .inl o_f1)), (h1, oX0 bc c_lines c_span c_rule c_odds c_wide c_high c_creeks c_houses c_widows c_acts), (h2, oX2 z0 u.1 u.2)]) 0 0 := by
  refine CV.go (cc := cX1_meanOfPegs) (maxL := 6) (ret := none) (by decide) rfl (Nat.le_of_ble_eq_true rfl) ?_
  intro p e s m below meth c A ls Q hBd hret
  obtain ⟨hx, hb, hr, hml, hts, hown, hlk, hnm, hP, hK, hD, hA, hZ, hl⟩ := hBd
  have hown : s.vm.findClass RX1 = some m.cls := hown
  have hl : lv_has ls 6 [(0, .ref h0), (1, .ref h1), (2, .ref h2)] := hl
  have hS : va_S A s.heap s.heap [] := va_S.rf
  refine lv_lconst (v := 0) hx hb dX1_meanOfPegs_0 (by decide) ?_
  refine lv_lstore_n (lv' := [(3, .long 0), (0, .ref h0), (1, .ref h1), (2, .ref h2)]) hx hb dX1_meanOfPegs_1 rfl hl (by decide) rfl (fun ls hl => ?_)
  refine lv_iconst (v := 0) hx hb dX1_meanOfPegs_2 (by decide) ?_
  refine lv_istore (lv' := [(5, .int 0), (3, .long 0), (0, .ref h0), (1, .ref h1), (2, .ref h2)]) hx hb dX1_meanOfPegs_3 hl (by decide) rfl (fun ls hl => ?_)
  have lp1 : ∀ (n2 : Nat) (x3 : Int32) (y4 : Int64), 0 ≤ x3.toInt → x3.toInt ≤ 128 → 128 - x3.toInt < (n2 : Int) → ∀ (H : Heap) (locs : List Loc), va_P G vwCl [(h0, oX1 b o_known), (b 1, .inl (cI, 128, .inl o_f1)), (h1, oX0 bc c_lines c_span c_rule c_odds c_wide c_high c_creeks c_houses c_widows c_acts), (h2, oX2 z0 r_above r_below)] H → va_D A [(h0, oX1 b o_known), (b 1, .inl (cI, 128, .inl o_f1)), (h1, oX0 bc c_lines c_span c_rule c_odds c_wide c_high c_creeks c_houses c_widows c_acts), (h2, oX2 z0 r_above r_below)] → va_S A s.heap H locs → ∀ (ls : Array Slot), lv_has ls 6 [(5, .int x3), (3, .long y4), (0, .ref h0), (1, .ref h1), (2, .ref h2)] → W p l e ({ frames := 2, cells := 0, slots := 0, locals := 50 } : Room) s m ([.ref h0, .ref h1, .ref h2] : List Value).toArray below meth c H locs 0 0 Q (F0 m 5 ls []) := by
    intro n2
    induction n2 with
    | zero =>
      intro x3 y4 k5 k6 mm8
      exact absurd mm8 (by have q9 := fb_rng x3; omega)
    | succ n2 ih7 =>
      intro x3 y4 k5 k6 mm8 H locs hP hD hS ls hl
      refine lv_iload hx hb dX1_meanOfPegs_5 (lv_at hl 0 rfl) ?_
      refine lv_iconst (v := 1) hx hb dX1_meanOfPegs_7 (by decide) ?_
      refine lv_aload_n hx hb dX1_meanOfPegs_8 rfl (lv_at hl 3 rfl) ?_
      refine va_getN (D := G) (ci := 0) (v := .int c_widows) (C := RX0) (T := TX0) (N := 19) hx hb hts iG_X0 hown hK hP 2 rfl rfl 8 (by decide) (nz_use hZ nw_84 rfl) (fun _ h9 => h9) rfl dX1_meanOfPegs_9 ?_
      refine lv_ishl hx hb dX1_meanOfPegs_12 ?_
      refine lv_topi (fun v9 ev9 => ?_)
      obtain ⟨sa10, sb11⟩ : 1 ≤ v9.toInt ∧ v9.toInt ≤ 128 := shl1 7 rfl (by omega) (by omega) (by decide) ev9
      refine lv_icmp_ge (tgt := 40) hx hb dX1_meanOfPegs_13 (by decide) (fun c12 => ?_) (fun c12 => ?_)
      · have c12 := i_le rfl rfl c12
        refine lv_aload_n hx hb dX1_meanOfPegs_40 rfl (lv_at hl 4 rfl) ?_
        refine lv_lload_n hx hb dX1_meanOfPegs_41 rfl (lv_at hl 1 rfl) ?_
        refine lv_bipush (v := 10) hx hb dX1_meanOfPegs_42 (by decide) ?_
        refine lv_aload_n hx hb dX1_meanOfPegs_44 rfl (lv_at hl 3 rfl) ?_
        refine va_getN (D := G) (ci := 0) (v := .int c_widows) (C := RX0) (T := TX0) (N := 19) hx hb hts iG_X0 hown hK hP 2 rfl rfl 8 (by decide) (nz_use hZ nw_84 rfl) (fun _ h9 => h9) rfl dX1_meanOfPegs_45 ?_
        refine k_l (wc := []) (wr := [(h0, oX1 b o_known), (b 1, .inl (cI, 128, .inl o_f1)), (h1, oX0 bc c_lines c_span c_rule c_odds c_wide c_high c_creeks c_houses c_widows c_acts), (h2, oX2 z0 r_above r_below)]) hP hD hS hA [] [0, 1, 2, 3] rfl rfl rfl (by decide) (va_runS (As := [.int 10, .int c_widows]) (rest := [.long y4, .ref h2]) ⟨hx, hb, hml, hown, hts⟩ (f_X1_power l G cI cJ cZ cB cQ _ 10 c_widows (by omega) (by omega)) (va_cwS 2 hts (gS w_1082 w_1083 w_7 w_1084) rfl rfl rfl hd_X1_power ⟨Nat.le_of_ble_eq_true rfl, Nat.le_of_ble_eq_true rfl⟩) (mS hK hZ hP hD [] rfl rfl [.int 10, .int c_widows]) rfl rfl hl.1 rfl (lv_room (Nat.le_of_ble_eq_true rfl)) dX1_meanOfPegs_48 ⟨Nat.le_of_ble_eq_true rfl, Nat.le_of_ble_eq_true rfl⟩) (fun r13 u14 H locs hw15 hP hD hS => ?_)
        try dsimp only at hw15
        have hP : va_P G vwCl [(h0, oX1 b o_known), (b 1, .inl (cI, 128, .inl o_f1)), (h1, oX0 bc c_lines c_span c_rule c_odds c_wide c_high c_creeks c_houses c_widows c_acts), (h2, oX2 z0 r_above r_below)] H := hP
        have hD : va_D A [(h0, oX1 b o_known), (b 1, .inl (cI, 128, .inl o_f1)), (h1, oX0 bc c_lines c_span c_rule c_odds c_wide c_high c_creeks c_houses c_widows c_acts), (h2, oX2 z0 r_above r_below)] := hD
        refine k_v (wc := [(h2, oX2 z0 r_above r_below)]) (wr := [(h0, oX1 b o_known), (b 1, .inl (cI, 128, .inl o_f1)), (h1, oX0 bc c_lines c_span c_rule c_odds c_wide c_high c_creeks c_houses c_widows c_acts)]) hP hD hS hA [3] [0, 1, 2] rfl rfl rfl (by decide) (va_runVN (As := [.long y4, .long r13]) (rest := []) ⟨hx, hb, hml, hown, hts⟩ (f_X2_reduce l G cI cJ cZ cB cQ _ h2 y4 r13 r_above r_below) ⟨va_cnB (host := "WidowRoads") 2 hts (gW w_1037) rfl rfl rfl (nz_nw hZ nw_1034 rfl) (hts _ w_10) hd_X2_reduce ⟨Nat.le_of_ble_eq_true rfl, Nat.le_of_ble_eq_true rfl⟩, (hts _ w_1036), (hts _ wp_68)⟩ (mV hK hZ hP hD [3] rfl rfl [.long y4, .long r13] 3 2 rfl rfl) rfl rfl hl.1 rfl (lv_room (Nat.le_of_ble_eq_true rfl)) dX1_meanOfPegs_51 ⟨Nat.le_of_ble_eq_true rfl, Nat.le_of_ble_eq_true rfl⟩) (fun u17 H locs hw18 hP hD hS => ?_)
        obtain ⟨o_aboveo19, o_belowo20⟩ := u17
        try dsimp only at hw18
        have hP : va_P G vwCl [(h0, oX1 b o_known), (b 1, .inl (cI, 128, .inl o_f1)), (h1, oX0 bc c_lines c_span c_rule c_odds c_wide c_high c_creeks c_houses c_widows c_acts), (h2, oX2 z0 o_aboveo19 o_belowo20)] H := hP
        have hD : va_D A [(h0, oX1 b o_known), (b 1, .inl (cI, 128, .inl o_f1)), (h1, oX0 bc c_lines c_span c_rule c_odds c_wide c_high c_creeks c_houses c_widows c_acts), (h2, oX2 z0 o_aboveo19 o_belowo20)] := hD
        exact hret _ _ _ _ (o_aboveo19, o_belowo20) hP hD hS dX1_meanOfPegs_54 trivial
      · have c12 := i_nle rfl rfl c12
        refine lv_lload_n hx hb dX1_meanOfPegs_16 rfl (lv_at hl 1 rfl) ?_
        refine lv_aload_n hx hb dX1_meanOfPegs_17 rfl (lv_at hl 3 rfl) ?_
        refine lv_iload hx hb dX1_meanOfPegs_18 (lv_at hl 0 rfl) ?_
        refine k_l (wc := [(h1, oX0 bc c_lines c_span c_rule c_odds c_wide c_high c_creeks c_houses c_widows c_acts)]) (wr := [(h0, oX1 b o_known), (b 1, .inl (cI, 128, .inl o_f1)), (h2, oX2 z0 r_above r_below)]) hP hD hS hA [2] [0, 1, 3] rfl rfl rfl (by decide) (va_runS (As := [.ref h1, .int x3]) (rest := [.long y4]) ⟨hx, hb, hml, hown, hts⟩ (f_X1_weight l G cI cJ cZ cB cQ _ h1 x3 bc c_lines c_span c_rule c_odds c_wide c_high c_creeks c_houses c_widows c_acts hl_c_span hh_c_span hl_c_rule hh_c_rule hl_c_odds hh_c_odds hl_c_wide hh_c_wide hl_c_high hh_c_high hl_c_creeks hh_c_creeks hl_c_houses hh_c_houses hl_c_widows hh_c_widows hl_c_acts hh_c_acts) (va_cwS 2 hts (gS w_1079 w_1080 w_7 w_1081) rfl rfl rfl hd_X1_weight ⟨Nat.le_of_ble_eq_true rfl, Nat.le_of_ble_eq_true rfl⟩) (mS hK hZ hP hD [2] rfl rfl [.ref h1, .int x3]) rfl rfl hl.1 rfl (lv_room (Nat.le_of_ble_eq_true rfl)) dX1_meanOfPegs_20 ⟨Nat.le_of_ble_eq_true rfl, Nat.le_of_ble_eq_true rfl⟩) (fun r21 u22 H locs hw23 hP hD hS => ?_)
        try dsimp only at hw23
        have hP : va_P G vwCl [(h0, oX1 b o_known), (b 1, .inl (cI, 128, .inl o_f1)), (h2, oX2 z0 r_above r_below), (h1, oX0 bc c_lines c_span c_rule c_odds c_wide c_high c_creeks c_houses c_widows c_acts)] H := hP
        have hD : va_D A [(h0, oX1 b o_known), (b 1, .inl (cI, 128, .inl o_f1)), (h2, oX2 z0 r_above r_below), (h1, oX0 bc c_lines c_span c_rule c_odds c_wide c_high c_creeks c_houses c_widows c_acts)] := hD
        refine lv_aload_n hx hb dX1_meanOfPegs_23 rfl (lv_at hl 2 rfl) ?_
        refine va_get (D := G) (ci := 1) (v := .ref (b 1)) (C := RX1) (T := TX1) (N := 3) hx hb hts iG_X1 hown hK hP 0 rfl rfl 1 (by decide) (hts _ w_289) (fun _ h9 => h9) rfl dX1_meanOfPegs_24 ?_
        refine lv_iload hx hb dX1_meanOfPegs_27 (lv_at hl 0 rfl) ?_
        refine va_iald hx hb hK hP 1 0 rfl rfl (ix_in rfl (by omega) (by omega)) dX1_meanOfPegs_29 ?_
        refine lv_topi (fun v24 ev24 => ?_)
        obtain ⟨v25, ev25⟩ : ∃ y : Int64, v24.toInt64 = y := ⟨_, rfl⟩
        have tv25 : v25.toInt = v24.toInt := ti_wide rfl ev25
        refine lv_i2l (v := v25) hx hb dX1_meanOfPegs_30 ev25 ?_
        refine lv_lmul hx hb dX1_meanOfPegs_31 ?_
        refine lv_topl (fun v26 ev26 => ?_)
        refine lv_ladd hx hb dX1_meanOfPegs_32 ?_
        refine lv_topl (fun v27 ev27 => ?_)
        refine lv_lstore_n (lv' := [(3, .long v27), (5, .int x3), (0, .ref h0), (1, .ref h1), (2, .ref h2)]) hx hb dX1_meanOfPegs_33 rfl hl (by decide) rfl (fun ls hl => ?_)
        obtain ⟨v28, ev28⟩ : ∃ y : Int32, y = x3 + 1 := ⟨_, rfl⟩
        have tv28 : v28.toInt = x3.toInt + 1 := ti_add rfl ki_1 ev28 (by omega) (by omega)
        refine lv_iinc (v := v28) (lv' := [(5, .int v28), (3, .long v27), (0, .ref h0), (1, .ref h1), (2, .ref h2)]) hx hb dX1_meanOfPegs_34 hl (k := 1) rfl (by rw [ev28]; rfl) (by decide) rfl (fun ls hl => ?_)
        refine lv_goto (tgt := 5) hx hb dX1_meanOfPegs_37 (by decide) ?_
        exact ih7 v28 v27 (by omega) (by omega) (by omega) _ _ (hP.sub [0, 1, 3, 2] rfl) (hD.sub [0, 1, 3, 2] rfl rfl) hS ls (lv_sub hl [0, 1, 2, 3, 4] rfl)
  exact lp1 129 0 0 (by rw [ki_0]; decide) (by rw [ki_0]; decide) (by rw [ki_0]; decide) _ _ hP hD hS ls (lv_sub hl [0, 1, 2, 3, 4] rfl)
