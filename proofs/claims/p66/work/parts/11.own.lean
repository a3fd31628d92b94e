theorem wp_21 : Cond.selects "WidowRoads" yX9_walkAnew yX9_walkAnew ∈ GW := GW_p 21 (by decide +kernel) rfl
theorem wp_41 : Cond.selects "WidowRoads$Net" yX3_layAll yX3_layAll ∈ GW := GW_p 41 (by decide +kernel) rfl
theorem wp_42 : Cond.selects "WidowRoads$Net" yX3_distance yX3_distance ∈ GW := GW_p 42 (by decide +kernel) rfl
theorem wp_56 : Cond.selects "WidowRoads" yX9_cellsOf yX9_cellsOf ∈ GW := GW_p 56 (by decide +kernel) rfl
theorem wp_59 : Cond.selects "WidowRoads" yX9_refusalOfRow yX9_refusalOfRow ∈ GW := GW_p 59 (by decide +kernel) rfl
theorem wp_60 : Cond.selects "WidowRoads$Rows" yX5_empty yX5_empty ∈ GW := GW_p 60 (by decide +kernel) rfl
theorem wp_61 : Cond.selects "WidowRoads$Rows" yX5_tellsOf yX5_tellsOf ∈ GW := GW_p 61 (by decide +kernel) rfl
theorem wp_63 : Cond.selects "WidowRoads$Rows" yX5_fits yX5_fits ∈ GW := GW_p 63 (by decide +kernel) rfl
theorem wp_72 : Cond.selects "WidowRoads" yX9_tellInFog yX9_tellInFog ∈ GW := GW_p 72 (by decide +kernel) rfl
theorem wp_73 : Cond.selects "WidowRoads$Story" yX6_gainOf yX6_gainOf ∈ GW := GW_p 73 (by decide +kernel) rfl
theorem w_352 : Jvm.Cond.fieldLink "WidowRoads" (19 : Nat) "WidowRoads" "told" "LWidowRoads$Colony;" ∈ GW := GW_t 352 (by decide +kernel) rfl
theorem w_354 : Jvm.Cond.fieldLink "WidowRoads" (30 : Nat) "WidowRoads" "supposal" "LWidowRoads$Supposal;" ∈ GW := GW_t 354 (by decide +kernel) rfl
theorem w_355 : Jvm.Cond.fieldLink "WidowRoads" (37 : Nat) "WidowRoads" "now" "LWidowRoads$Story;" ∈ GW := GW_t 355 (by decide +kernel) rfl
theorem w_356 : Jvm.Cond.fieldLink "WidowRoads" (41 : Nat) "WidowRoads" "spare" "LWidowRoads$Story;" ∈ GW := GW_t 356 (by decide +kernel) rfl
theorem w_357 : Jvm.Cond.fieldLink "WidowRoads" (47 : Nat) "WidowRoads" "evenings" "LWidowRoads$Evenings;" ∈ GW := GW_t 357 (by decide +kernel) rfl
theorem w_358 : Jvm.Cond.fieldLink "WidowRoads" (54 : Nat) "WidowRoads" "net" "LWidowRoads$Net;" ∈ GW := GW_t 358 (by decide +kernel) rfl
theorem w_359 : Jvm.Cond.fieldLink "WidowRoads" (61 : Nat) "WidowRoads" "rows" "LWidowRoads$Rows;" ∈ GW := GW_t 359 (by decide +kernel) rfl
theorem w_361 : Jvm.Cond.fieldLink "WidowRoads" (72 : Nat) "WidowRoads" "tracks" "[I" ∈ GW := GW_t 361 (by decide +kernel) rfl
theorem w_569 : Jvm.Cond.methodLink "WidowRoads" (103 : Nat) ({ cls := "WidowRoads", name := "walkAnew", desc := "()V" } : Jvm.MethodName) ∈ GW := GW_t 569 (by decide +kernel) rfl
theorem w_571 : Jvm.Cond.instanceMethod ({ cls := "WidowRoads", name := "walkAnew", desc := "()V" } : Jvm.MethodName) ∈ GW := GW_t 571 (by decide +kernel) rfl
theorem w_572 : Jvm.Cond.code ({ cls := "WidowRoads", name := "walkAnew", desc := "()V" } : Jvm.MethodName) prog_1_method_70_code (1 : Nat) (Option.none : Option Jvm.ClassFile.FieldType) ∈ GW := GW_t 572 (by decide +kernel) rfl
theorem w_660 : Jvm.Cond.methodLink "WidowRoads" (120 : Nat) ({ cls := "WidowRoads", name := "has", desc := "(JI)Z" } : Jvm.MethodName) ∈ GW := GW_t 660 (by decide +kernel) rfl
theorem w_661 : Jvm.Cond.methodLink "WidowRoads" (124 : Nat) ({ cls := "WidowRoads", name := "oneIf", desc := "(Z)I" } : Jvm.MethodName) ∈ GW := GW_t 661 (by decide +kernel) rfl
theorem w_741 : Jvm.Cond.constantLong "WidowRoads" (293 : Nat) (-1 : Int64) ∈ GW := GW_t 741 (by decide +kernel) rfl
theorem w_744 : Jvm.Cond.instanceMethod ({ cls := "WidowRoads$Net", name := "layAll", desc := "(J)V" } : Jvm.MethodName) ∈ GW := GW_t 744 (by decide +kernel) rfl
theorem w_745 : Jvm.Cond.code ({ cls := "WidowRoads$Net", name := "layAll", desc := "(J)V" } : Jvm.MethodName) prog_5_method_3_code (3 : Nat) (Option.none : Option Jvm.ClassFile.FieldType) ∈ GW := GW_t 745 (by decide +kernel) rfl
theorem w_749 : Jvm.Cond.instanceMethod ({ cls := "WidowRoads$Net", name := "distance", desc := "(II)I" } : Jvm.MethodName) ∈ GW := GW_t 749 (by decide +kernel) rfl
theorem w_750 : Jvm.Cond.code ({ cls := "WidowRoads$Net", name := "distance", desc := "(II)I" } : Jvm.MethodName) prog_5_method_7_code (6 : Nat) (Option.some Jvm.ClassFile.FieldType.int) ∈ GW := GW_t 750 (by decide +kernel) rfl
theorem w_821 : Jvm.Cond.methodLink "WidowRoads" (219 : Nat) ({ cls := "java/lang/Math", name := "max", desc := "(II)I" } : Jvm.MethodName) ∈ GW := GW_t 821 (by decide +kernel) rfl
theorem w_822 : Jvm.Cond.static ({ cls := "java/lang/Math", name := "max", desc := "(II)I" } : Jvm.MethodName) ∈ GW := GW_t 822 (by decide +kernel) rfl
theorem w_823 : Jvm.Cond.code ({ cls := "java/lang/Math", name := "max", desc := "(II)I" } : Jvm.MethodName) prog_15_method_65_code (2 : Nat) (Option.some Jvm.ClassFile.FieldType.int) ∈ GW := GW_t 823 (by decide +kernel) rfl
theorem w_865 : Jvm.Cond.methodLink "WidowRoads" (240 : Nat) ({ cls := "java/lang/Integer", name := "bitCount", desc := "(I)I" } : Jvm.MethodName) ∈ GW := GW_t 865 (by decide +kernel) rfl
theorem w_919 : Jvm.Cond.methodLink "WidowRoads" (425 : Nat) ({ cls := "WidowRoads", name := "cellsOf", desc := "(I)J" } : Jvm.MethodName) ∈ GW := GW_t 919 (by decide +kernel) rfl
theorem w_921 : Jvm.Cond.instanceMethod ({ cls := "WidowRoads", name := "cellsOf", desc := "(I)J" } : Jvm.MethodName) ∈ GW := GW_t 921 (by decide +kernel) rfl
theorem w_922 : Jvm.Cond.code ({ cls := "WidowRoads", name := "cellsOf", desc := "(I)J" } : Jvm.MethodName) prog_1_method_75_code (5 : Nat) (Option.some Jvm.ClassFile.FieldType.long) ∈ GW := GW_t 922 (by decide +kernel) rfl
theorem w_947 : Jvm.Cond.methodLink "WidowRoads" (317 : Nat) ({ cls := "WidowRoads", name := "refusalOfRow", desc := "(I)I" } : Jvm.MethodName) ∈ GW := GW_t 947 (by decide +kernel) rfl
theorem w_949 : Jvm.Cond.instanceMethod ({ cls := "WidowRoads", name := "refusalOfRow", desc := "(I)I" } : Jvm.MethodName) ∈ GW := GW_t 949 (by decide +kernel) rfl
theorem w_950 : Jvm.Cond.code ({ cls := "WidowRoads", name := "refusalOfRow", desc := "(I)I" } : Jvm.MethodName) prog_1_method_77_code (2 : Nat) (Option.some Jvm.ClassFile.FieldType.int) ∈ GW := GW_t 950 (by decide +kernel) rfl
theorem w_951 : Jvm.Cond.methodLink "WidowRoads" (388 : Nat) ({ cls := "WidowRoads", name := "isSlot", desc := "(I)Z" } : Jvm.MethodName) ∈ GW := GW_t 951 (by decide +kernel) rfl
theorem w_952 : Jvm.Cond.static ({ cls := "WidowRoads", name := "isSlot", desc := "(I)Z" } : Jvm.MethodName) ∈ GW := GW_t 952 (by decide +kernel) rfl
theorem w_953 : Jvm.Cond.code ({ cls := "WidowRoads", name := "isSlot", desc := "(I)Z" } : Jvm.MethodName) prog_1_method_86_code (1 : Nat) (Option.some Jvm.ClassFile.FieldType.boolean) ∈ GW := GW_t 953 (by decide +kernel) rfl
theorem w_956 : Jvm.Cond.instanceMethod ({ cls := "WidowRoads$Rows", name := "empty", desc := "(I)Z" } : Jvm.MethodName) ∈ GW := GW_t 956 (by decide +kernel) rfl
theorem w_957 : Jvm.Cond.code ({ cls := "WidowRoads$Rows", name := "empty", desc := "(I)Z" } : Jvm.MethodName) prog_7_method_2_code (2 : Nat) (Option.some Jvm.ClassFile.FieldType.boolean) ∈ GW := GW_t 957 (by decide +kernel) rfl
theorem w_960 : Jvm.Cond.instanceMethod ({ cls := "WidowRoads$Rows", name := "tellsOf", desc := "(ILWidowRoads$Colony;)Z" } : Jvm.MethodName) ∈ GW := GW_t 960 (by decide +kernel) rfl
theorem w_961 : Jvm.Cond.code ({ cls := "WidowRoads$Rows", name := "tellsOf", desc := "(ILWidowRoads$Colony;)Z" } : Jvm.MethodName) prog_7_method_9_code (5 : Nat) (Option.some Jvm.ClassFile.FieldType.boolean) ∈ GW := GW_t 961 (by decide +kernel) rfl
theorem w_971 : Jvm.Cond.instanceMethod ({ cls := "WidowRoads$Rows", name := "fits", desc := "(ILWidowRoads$Colony;LWidowRoads$Story;)Z" } : Jvm.MethodName) ∈ GW := GW_t 971 (by decide +kernel) rfl
theorem w_972 : Jvm.Cond.code ({ cls := "WidowRoads$Rows", name := "fits", desc := "(ILWidowRoads$Colony;LWidowRoads$Story;)Z" } : Jvm.MethodName) prog_7_method_10_code (6 : Nat) (Option.some Jvm.ClassFile.FieldType.boolean) ∈ GW := GW_t 972 (by decide +kernel) rfl
theorem w_1057 : Jvm.Cond.methodLink "WidowRoads" (370 : Nat) ({ cls := "WidowRoads", name := "tellInFog", desc := "(I)V" } : Jvm.MethodName) ∈ GW := GW_t 1057 (by decide +kernel) rfl
theorem w_1059 : Jvm.Cond.instanceMethod ({ cls := "WidowRoads", name := "tellInFog", desc := "(I)V" } : Jvm.MethodName) ∈ GW := GW_t 1059 (by decide +kernel) rfl
theorem w_1060 : Jvm.Cond.code ({ cls := "WidowRoads", name := "tellInFog", desc := "(I)V" } : Jvm.MethodName) prog_1_method_81_code (2 : Nat) (Option.none : Option Jvm.ClassFile.FieldType) ∈ GW := GW_t 1060 (by decide +kernel) rfl
theorem w_1063 : Jvm.Cond.instanceMethod ({ cls := "WidowRoads$Story", name := "gainOf", desc := "(I)I" } : Jvm.MethodName) ∈ GW := GW_t 1063 (by decide +kernel) rfl
theorem w_1064 : Jvm.Cond.code ({ cls := "WidowRoads$Story", name := "gainOf", desc := "(I)I" } : Jvm.MethodName) prog_8_method_16_code (2 : Nat) (Option.some Jvm.ClassFile.FieldType.int) ∈ GW := GW_t 1064 (by decide +kernel) rfl
theorem w_1125 : Jvm.Cond.constantLong "WidowRoads" (435 : Nat) (1103515245 : Int64) ∈ GW := GW_t 1125 (by decide +kernel) rfl
theorem w_1126 : Jvm.Cond.constantLong "WidowRoads" (437 : Nat) (12345 : Int64) ∈ GW := GW_t 1126 (by decide +kernel) rfl
theorem w_1127 : Jvm.Cond.constantLong "WidowRoads" (439 : Nat) (2147483647 : Int64) ∈ GW := GW_t 1127 (by decide +kernel) rfl
theorem w_1128 : Jvm.Cond.constantLong "WidowRoads" (441 : Nat) (65536 : Int64) ∈ GW := GW_t 1128 (by decide +kernel) rfl
theorem w_1129 : Jvm.Cond.constantLong "WidowRoads" (443 : Nat) (10 : Int64) ∈ GW := GW_t 1129 (by decide +kernel) rfl
theorem iG_X9 : ∀ w ∈ wsX90, w ∈ GW := GW_in [362, 364, 366, 368, 370, 372, 374, 376, 378, 380, 382] (by decide +kernel) (by decide +kernel)
theorem nw_57 : Jvm.Cond.fieldLinkNest "WidowRoads" (106 : Nat) "WidowRoads$Colony" "lines" "I" "WidowRoads" ∈ tables_1 := List.mem_of_getElem? (i := 57) (by decide +kernel)
theorem nw_62 : Jvm.Cond.fieldLinkNest "WidowRoads" (186 : Nat) "WidowRoads$Colony" "span" "I" "WidowRoads" ∈ tables_1 := List.mem_of_getElem? (i := 62) (by decide +kernel)
theorem nw_70 : Jvm.Cond.fieldLinkNest "WidowRoads" (376 : Nat) "WidowRoads$Colony" "odds" "I" "WidowRoads" ∈ tables_1 := List.mem_of_getElem? (i := 70) (by decide +kernel)
theorem nw_88 : Jvm.Cond.fieldLinkNest "WidowRoads" (189 : Nat) "WidowRoads$Colony" "widows" "I" "WidowRoads" ∈ tables_1 := List.mem_of_getElem? (i := 88) (by decide +kernel)
theorem nw_90 : Jvm.Cond.fieldLinkNest "WidowRoads" (361 : Nat) "WidowRoads$Colony" "acts" "I" "WidowRoads" ∈ tables_1 := List.mem_of_getElem? (i := 90) (by decide +kernel)
theorem nw_122 : Jvm.Cond.fieldLinkNest "WidowRoads" (419 : Nat) "WidowRoads$Colony" "actsDone" "[I" "WidowRoads" ∈ tables_1 := List.mem_of_getElem? (i := 122) (by decide +kernel)
theorem nw_200 : Jvm.Cond.fieldLinkNest "WidowRoads" (434 : Nat) "WidowRoads$Supposal" "rule" "I" "WidowRoads" ∈ tables_1 := List.mem_of_getElem? (i := 200) (by decide +kernel)
theorem nw_204 : Jvm.Cond.fieldLinkNest "WidowRoads" (274 : Nat) "WidowRoads$Supposal" "walkers" "I" "WidowRoads" ∈ tables_1 := List.mem_of_getElem? (i := 204) (by decide +kernel)
theorem nw_209 : Jvm.Cond.fieldLinkNest "WidowRoads" (301 : Nat) "WidowRoads$Supposal" "widow" "I" "WidowRoads" ∈ tables_1 := List.mem_of_getElem? (i := 209) (by decide +kernel)
theorem nw_211 : Jvm.Cond.fieldLinkNest "WidowRoads" (432 : Nat) "WidowRoads$Supposal" "faces" "I" "WidowRoads" ∈ tables_1 := List.mem_of_getElem? (i := 211) (by decide +kernel)
theorem nw_239 : Jvm.Cond.fieldLinkNest "WidowRoads" (171 : Nat) "WidowRoads$Story" "been" "[J" "WidowRoads" ∈ tables_1 := List.mem_of_getElem? (i := 239) (by decide +kernel)
theorem nw_249 : Jvm.Cond.fieldLinkNest "WidowRoads" (195 : Nat) "WidowRoads$Story" "roads" "[J" "WidowRoads" ∈ tables_1 := List.mem_of_getElem? (i := 249) (by decide +kernel)
theorem nw_292 : Jvm.Cond.fieldLinkNest "WidowRoads" (415 : Nat) "WidowRoads$Evenings" "known" "Z" "WidowRoads" ∈ tables_1 := List.mem_of_getElem? (i := 292) (by decide +kernel)
theorem nw_573 : Jvm.Cond.methodLinkNest "WidowRoads" (271 : Nat) ({ cls := "WidowRoads$Supposal", name := "asNow", desc := "(LWidowRoads$Colony;)V" } : Jvm.MethodName) "WidowRoads" ∈ tables_1 := List.mem_of_getElem? (i := 573) (by decide +kernel)
theorem nw_582 : Jvm.Cond.methodLinkNest "WidowRoads" (277 : Nat) ({ cls := "WidowRoads$Story", name := "tell", desc := "(LWidowRoads$Colony;LWidowRoads$Supposal;)V" } : Jvm.MethodName) "WidowRoads" ∈ tables_1 := List.mem_of_getElem? (i := 582) (by decide +kernel)
theorem nw_659 : Jvm.Cond.methodLinkNest "WidowRoads" (116 : Nat) ({ cls := "WidowRoads$Colony", name := "creekBits", desc := "()J" } : Jvm.MethodName) "WidowRoads" ∈ tables_1 := List.mem_of_getElem? (i := 659) (by decide +kernel)
theorem nw_668 : Jvm.Cond.methodLinkNest "WidowRoads" (128 : Nat) ({ cls := "WidowRoads$Colony", name := "hasWidow", desc := "(J)Z" } : Jvm.MethodName) "WidowRoads" ∈ tables_1 := List.mem_of_getElem? (i := 668) (by decide +kernel)
theorem nw_687 : Jvm.Cond.methodLinkNest "WidowRoads" (157 : Nat) ({ cls := "WidowRoads$Story", name := "spotAt", desc := "(II)I" } : Jvm.MethodName) "WidowRoads" ∈ tables_1 := List.mem_of_getElem? (i := 687) (by decide +kernel)
theorem nw_740 : Jvm.Cond.methodLinkNest "WidowRoads" (422 : Nat) ({ cls := "WidowRoads$Colony", name := "field", desc := "()J" } : Jvm.MethodName) "WidowRoads" ∈ tables_1 := List.mem_of_getElem? (i := 740) (by decide +kernel)
theorem nw_742 : Jvm.Cond.methodLinkNest "WidowRoads" (215 : Nat) ({ cls := "WidowRoads$Net", name := "layAll", desc := "(J)V" } : Jvm.MethodName) "WidowRoads" ∈ tables_1 := List.mem_of_getElem? (i := 742) (by decide +kernel)
theorem nw_747 : Jvm.Cond.methodLinkNest "WidowRoads" (231 : Nat) ({ cls := "WidowRoads$Net", name := "distance", desc := "(II)I" } : Jvm.MethodName) "WidowRoads" ∈ tables_1 := List.mem_of_getElem? (i := 747) (by decide +kernel)
theorem nw_769 : Jvm.Cond.methodLinkNest "WidowRoads" (198 : Nat) ({ cls := "WidowRoads$Story", name := "pegsIn", desc := "(I)I" } : Jvm.MethodName) "WidowRoads" ∈ tables_1 := List.mem_of_getElem? (i := 769) (by decide +kernel)
theorem nw_954 : Jvm.Cond.methodLinkNest "WidowRoads" (395 : Nat) ({ cls := "WidowRoads$Rows", name := "empty", desc := "(I)Z" } : Jvm.MethodName) "WidowRoads" ∈ tables_1 := List.mem_of_getElem? (i := 954) (by decide +kernel)
theorem nw_958 : Jvm.Cond.methodLinkNest "WidowRoads" (428 : Nat) ({ cls := "WidowRoads$Rows", name := "tellsOf", desc := "(ILWidowRoads$Colony;)Z" } : Jvm.MethodName) "WidowRoads" ∈ tables_1 := List.mem_of_getElem? (i := 958) (by decide +kernel)
theorem nw_969 : Jvm.Cond.methodLinkNest "WidowRoads" (307 : Nat) ({ cls := "WidowRoads$Rows", name := "fits", desc := "(ILWidowRoads$Colony;LWidowRoads$Story;)Z" } : Jvm.MethodName) "WidowRoads" ∈ tables_1 := List.mem_of_getElem? (i := 969) (by decide +kernel)
theorem nw_1061 : Jvm.Cond.methodLinkNest "WidowRoads" (445 : Nat) ({ cls := "WidowRoads$Story", name := "gainOf", desc := "(I)I" } : Jvm.MethodName) "WidowRoads" ∈ tables_1 := List.mem_of_getElem? (i := 1061) (by decide +kernel)
theorem hd_X3_distance : yX3_distance.cls ≠ "java/lang/invoke/MethodHandle" ∧ yX3_distance.cls ≠ "java/lang/invoke/VarHandle" ∧ (parseMethodDescriptor yX3_distance.desc).map (fun d => d.parameters.length) = some 2 := by decide +kernel
theorem hd_X3_layAll : yX3_layAll.cls ≠ "java/lang/invoke/MethodHandle" ∧ yX3_layAll.cls ≠ "java/lang/invoke/VarHandle" ∧ (parseMethodDescriptor yX3_layAll.desc).map (fun d => d.parameters.length) = some 1 := by decide +kernel
theorem hd_X5_empty : yX5_empty.cls ≠ "java/lang/invoke/MethodHandle" ∧ yX5_empty.cls ≠ "java/lang/invoke/VarHandle" ∧ (parseMethodDescriptor yX5_empty.desc).map (fun d => d.parameters.length) = some 1 := by decide +kernel
theorem hd_X5_fits : yX5_fits.cls ≠ "java/lang/invoke/MethodHandle" ∧ yX5_fits.cls ≠ "java/lang/invoke/VarHandle" ∧ (parseMethodDescriptor yX5_fits.desc).map (fun d => d.parameters.length) = some 3 := by decide +kernel
theorem hd_X5_tellsOf : yX5_tellsOf.cls ≠ "java/lang/invoke/MethodHandle" ∧ yX5_tellsOf.cls ≠ "java/lang/invoke/VarHandle" ∧ (parseMethodDescriptor yX5_tellsOf.desc).map (fun d => d.parameters.length) = some 2 := by decide +kernel
theorem hd_X6_gainOf : yX6_gainOf.cls ≠ "java/lang/invoke/MethodHandle" ∧ yX6_gainOf.cls ≠ "java/lang/invoke/VarHandle" ∧ (parseMethodDescriptor yX6_gainOf.desc).map (fun d => d.parameters.length) = some 1 := by decide +kernel
theorem hd_X9_cellsOf : yX9_cellsOf.cls ≠ "java/lang/invoke/MethodHandle" ∧ yX9_cellsOf.cls ≠ "java/lang/invoke/VarHandle" ∧ (parseMethodDescriptor yX9_cellsOf.desc).map (fun d => d.parameters.length) = some 1 := by decide +kernel
theorem hd_X9_isSlot : yX9_isSlot.cls ≠ "java/lang/invoke/MethodHandle" ∧ yX9_isSlot.cls ≠ "java/lang/invoke/VarHandle" ∧ (parseMethodDescriptor yX9_isSlot.desc).map (fun d => d.parameters.length) = some 1 := by decide +kernel
theorem hd_X9_refusalOfRow : yX9_refusalOfRow.cls ≠ "java/lang/invoke/MethodHandle" ∧ yX9_refusalOfRow.cls ≠ "java/lang/invoke/VarHandle" ∧ (parseMethodDescriptor yX9_refusalOfRow.desc).map (fun d => d.parameters.length) = some 1 := by decide +kernel
theorem hd_X9_tellInFog : yX9_tellInFog.cls ≠ "java/lang/invoke/MethodHandle" ∧ yX9_tellInFog.cls ≠ "java/lang/invoke/VarHandle" ∧ (parseMethodDescriptor yX9_tellInFog.desc).map (fun d => d.parameters.length) = some 1 := by decide +kernel
theorem hd_X9_walkAnew : yX9_walkAnew.cls ≠ "java/lang/invoke/MethodHandle" ∧ yX9_walkAnew.cls ≠ "java/lang/invoke/VarHandle" ∧ (parseMethodDescriptor yX9_walkAnew.desc).map (fun d => d.parameters.length) = some 0 := by decide +kernel
theorem dX9_act_0 : decode cX9_act 0 = .ok (.aload_n 0, 1) := by decide +kernel
theorem dX9_act_1 : decode cX9_act 1 = .ok (.getfield 19, 3) := by decide +kernel
theorem dX9_act_4 : decode cX9_act 4 = .ok (.getfield 361, 3) := by decide +kernel
theorem dX9_act_7 : decode cX9_act 7 = .ok (.bipush 30, 2) := by decide +kernel
theorem dX9_act_9 : decode cX9_act 9 = .ok (.if_icmp .lt 6, 3) := by decide +kernel
theorem dX9_act_12 : decode cX9_act 12 = .ok (.bipush (-5), 2) := by decide +kernel
theorem dX9_act_14 : decode cX9_act 14 = .ok (.ireturn, 1) := by decide +kernel
theorem dX9_act_15 : decode cX9_act 15 = .ok (.aload_n 0, 1) := by decide +kernel
theorem dX9_act_16 : decode cX9_act 16 = .ok (.getfield 19, 3) := by decide +kernel
theorem dX9_act_19 : decode cX9_act 19 = .ok (.getfield 419, 3) := by decide +kernel
theorem dX9_act_22 : decode cX9_act 22 = .ok (.aload_n 0, 1) := by decide +kernel
theorem dX9_act_23 : decode cX9_act 23 = .ok (.getfield 19, 3) := by decide +kernel
theorem dX9_act_26 : decode cX9_act 26 = .ok (.getfield 361, 3) := by decide +kernel
theorem dX9_act_29 : decode cX9_act 29 = .ok (.iload_n 1, 1) := by decide +kernel
theorem dX9_act_30 : decode cX9_act 30 = .ok (.iastore, 1) := by decide +kernel
theorem dX9_act_31 : decode cX9_act 31 = .ok (.aload_n 0, 1) := by decide +kernel
theorem dX9_act_32 : decode cX9_act 32 = .ok (.getfield 19, 3) := by decide +kernel
theorem dX9_act_35 : decode cX9_act 35 = .ok (.dup, 1) := by decide +kernel
theorem dX9_act_36 : decode cX9_act 36 = .ok (.getfield 361, 3) := by decide +kernel
theorem dX9_act_39 : decode cX9_act 39 = .ok (.iconst 1, 1) := by decide +kernel
theorem dX9_act_40 : decode cX9_act 40 = .ok (.iadd, 1) := by decide +kernel
theorem dX9_act_41 : decode cX9_act 41 = .ok (.putfield 361, 3) := by decide +kernel
theorem dX9_act_44 : decode cX9_act 44 = .ok (.aload_n 0, 1) := by decide +kernel
theorem dX9_act_45 : decode cX9_act 45 = .ok (.invokevirtual 103, 3) := by decide +kernel
theorem dX9_act_48 : decode cX9_act 48 = .ok (.aload_n 0, 1) := by decide +kernel
theorem dX9_act_49 : decode cX9_act 49 = .ok (.getfield 37, 3) := by decide +kernel
theorem dX9_act_52 : decode cX9_act 52 = .ok (.aload_n 0, 1) := by decide +kernel
theorem dX9_act_53 : decode cX9_act 53 = .ok (.getfield 19, 3) := by decide +kernel
theorem dX9_act_56 : decode cX9_act 56 = .ok (.getfield 186, 3) := by decide +kernel
theorem dX9_act_59 : decode cX9_act 59 = .ok (.invokevirtual 198, 3) := by decide +kernel
theorem dX9_act_62 : decode cX9_act 62 = .ok (.ireturn, 1) := by decide +kernel
theorem dX9_areTwo_0 : decode cX9_areTwo 0 = .ok (.aload_n 0, 1) := by decide +kernel
theorem dX9_areTwo_1 : decode cX9_areTwo 1 = .ok (.getfield 19, 3) := by decide +kernel
theorem dX9_areTwo_4 : decode cX9_areTwo 4 = .ok (.iload_n 1, 1) := by decide +kernel
theorem dX9_areTwo_5 : decode cX9_areTwo 5 = .ok (.i2l, 1) := by decide +kernel
theorem dX9_areTwo_6 : decode cX9_areTwo 6 = .ok (.invokevirtual 128, 3) := by decide +kernel
theorem dX9_areTwo_9 : decode cX9_areTwo 9 = .ok (.ifCond .eq 24, 3) := by decide +kernel
theorem dX9_areTwo_12 : decode cX9_areTwo 12 = .ok (.aload_n 0, 1) := by decide +kernel
theorem dX9_areTwo_13 : decode cX9_areTwo 13 = .ok (.getfield 19, 3) := by decide +kernel
theorem dX9_areTwo_16 : decode cX9_areTwo 16 = .ok (.iload_n 2, 1) := by decide +kernel
theorem dX9_areTwo_17 : decode cX9_areTwo 17 = .ok (.i2l, 1) := by decide +kernel
theorem dX9_areTwo_18 : decode cX9_areTwo 18 = .ok (.invokevirtual 128, 3) := by decide +kernel
theorem dX9_areTwo_21 : decode cX9_areTwo 21 = .ok (.ifCond .eq 12, 3) := by decide +kernel
theorem dX9_areTwo_24 : decode cX9_areTwo 24 = .ok (.iload_n 1, 1) := by decide +kernel
theorem dX9_areTwo_25 : decode cX9_areTwo 25 = .ok (.iload_n 2, 1) := by decide +kernel
theorem dX9_areTwo_26 : decode cX9_areTwo 26 = .ok (.if_icmp .eq 7, 3) := by decide +kernel
theorem dX9_areTwo_29 : decode cX9_areTwo 29 = .ok (.iconst 1, 1) := by decide +kernel
theorem dX9_areTwo_30 : decode cX9_areTwo 30 = .ok (.goto 4, 3) := by decide +kernel
theorem dX9_areTwo_33 : decode cX9_areTwo 33 = .ok (.iconst 0, 1) := by decide +kernel
theorem dX9_areTwo_34 : decode cX9_areTwo 34 = .ok (.ireturn, 1) := by decide +kernel
theorem dX9_cellsOf_0 : decode cX9_cellsOf 0 = .ok (.lconst 0, 1) := by decide +kernel
theorem dX9_cellsOf_1 : decode cX9_cellsOf 1 = .ok (.lstore_n 2, 1) := by decide +kernel
theorem dX9_cellsOf_2 : decode cX9_cellsOf 2 = .ok (.iconst 0, 1) := by decide +kernel
theorem dX9_cellsOf_3 : decode cX9_cellsOf 3 = .ok (.istore 4, 2) := by decide +kernel
theorem dX9_cellsOf_5 : decode cX9_cellsOf 5 = .ok (.iload 4, 2) := by decide +kernel
theorem dX9_cellsOf_7 : decode cX9_cellsOf 7 = .ok (.aload_n 0, 1) := by decide +kernel
theorem dX9_cellsOf_8 : decode cX9_cellsOf 8 = .ok (.getfield 19, 3) := by decide +kernel
theorem dX9_cellsOf_11 : decode cX9_cellsOf 11 = .ok (.getfield 189, 3) := by decide +kernel
theorem dX9_cellsOf_14 : decode cX9_cellsOf 14 = .ok (.if_icmp .ge 32, 3) := by decide +kernel
theorem dX9_cellsOf_17 : decode cX9_cellsOf 17 = .ok (.iload_n 1, 1) := by decide +kernel
theorem dX9_cellsOf_18 : decode cX9_cellsOf 18 = .ok (.iload 4, 2) := by decide +kernel
theorem dX9_cellsOf_20 : decode cX9_cellsOf 20 = .ok (.ishr, 1) := by decide +kernel
theorem dX9_cellsOf_21 : decode cX9_cellsOf 21 = .ok (.iconst 1, 1) := by decide +kernel
theorem dX9_cellsOf_22 : decode cX9_cellsOf 22 = .ok (.iand, 1) := by decide +kernel
theorem dX9_cellsOf_23 : decode cX9_cellsOf 23 = .ok (.iconst 1, 1) := by decide +kernel
theorem dX9_cellsOf_24 : decode cX9_cellsOf 24 = .ok (.if_icmp .ne 16, 3) := by decide +kernel
theorem dX9_cellsOf_27 : decode cX9_cellsOf 27 = .ok (.lload_n 2, 1) := by decide +kernel
theorem dX9_cellsOf_28 : decode cX9_cellsOf 28 = .ok (.aload_n 0, 1) := by decide +kernel
theorem dX9_cellsOf_29 : decode cX9_cellsOf 29 = .ok (.getfield 37, 3) := by decide +kernel
theorem dX9_cellsOf_32 : decode cX9_cellsOf 32 = .ok (.getfield 171, 3) := by decide +kernel
theorem dX9_cellsOf_35 : decode cX9_cellsOf 35 = .ok (.iload 4, 2) := by decide +kernel
theorem dX9_cellsOf_37 : decode cX9_cellsOf 37 = .ok (.laload, 1) := by decide +kernel
theorem dX9_cellsOf_38 : decode cX9_cellsOf 38 = .ok (.lor, 1) := by decide +kernel
theorem dX9_cellsOf_39 : decode cX9_cellsOf 39 = .ok (.lstore_n 2, 1) := by decide +kernel
theorem dX9_cellsOf_40 : decode cX9_cellsOf 40 = .ok (.iinc 4 1, 3) := by decide +kernel
theorem dX9_cellsOf_43 : decode cX9_cellsOf 43 = .ok (.goto (-38), 3) := by decide +kernel
theorem dX9_cellsOf_46 : decode cX9_cellsOf 46 = .ok (.lload_n 2, 1) := by decide +kernel
theorem dX9_cellsOf_47 : decode cX9_cellsOf 47 = .ok (.lreturn, 1) := by decide +kernel
theorem dX9_facesFitting_0 : decode cX9_facesFitting 0 = .ok (.iconst 0, 1) := by decide +kernel
theorem dX9_facesFitting_1 : decode cX9_facesFitting 1 = .ok (.istore_n 3, 1) := by decide +kernel
theorem dX9_facesFitting_2 : decode cX9_facesFitting 2 = .ok (.iconst 0, 1) := by decide +kernel
theorem dX9_facesFitting_3 : decode cX9_facesFitting 3 = .ok (.istore 4, 2) := by decide +kernel
theorem dX9_facesFitting_5 : decode cX9_facesFitting 5 = .ok (.iload 4, 2) := by decide +kernel
theorem dX9_facesFitting_7 : decode cX9_facesFitting 7 = .ok (.iconst 4, 1) := by decide +kernel
theorem dX9_facesFitting_8 : decode cX9_facesFitting 8 = .ok (.if_icmp .ge 116, 3) := by decide +kernel
theorem dX9_facesFitting_11 : decode cX9_facesFitting 11 = .ok (.aload_n 0, 1) := by decide +kernel
theorem dX9_facesFitting_12 : decode cX9_facesFitting 12 = .ok (.getfield 30, 3) := by decide +kernel
theorem dX9_facesFitting_15 : decode cX9_facesFitting 15 = .ok (.aload_n 0, 1) := by decide +kernel
theorem dX9_facesFitting_16 : decode cX9_facesFitting 16 = .ok (.getfield 19, 3) := by decide +kernel
theorem dX9_facesFitting_19 : decode cX9_facesFitting 19 = .ok (.invokevirtual 271, 3) := by decide +kernel
theorem dX9_facesFitting_22 : decode cX9_facesFitting 22 = .ok (.aload_n 0, 1) := by decide +kernel
theorem dX9_facesFitting_23 : decode cX9_facesFitting 23 = .ok (.getfield 30, 3) := by decide +kernel
theorem dX9_facesFitting_26 : decode cX9_facesFitting 26 = .ok (.iload_n 2, 1) := by decide +kernel
theorem dX9_facesFitting_27 : decode cX9_facesFitting 27 = .ok (.putfield 301, 3) := by decide +kernel
theorem dX9_facesFitting_30 : decode cX9_facesFitting 30 = .ok (.aload_n 0, 1) := by decide +kernel
theorem dX9_facesFitting_31 : decode cX9_facesFitting 31 = .ok (.getfield 30, 3) := by decide +kernel
theorem dX9_facesFitting_34 : decode cX9_facesFitting 34 = .ok (.iload 4, 2) := by decide +kernel
theorem dX9_facesFitting_36 : decode cX9_facesFitting 36 = .ok (.putfield 432, 3) := by decide +kernel
theorem dX9_facesFitting_39 : decode cX9_facesFitting 39 = .ok (.aload_n 0, 1) := by decide +kernel
theorem dX9_facesFitting_40 : decode cX9_facesFitting 40 = .ok (.getfield 41, 3) := by decide +kernel
theorem dX9_facesFitting_43 : decode cX9_facesFitting 43 = .ok (.aload_n 0, 1) := by decide +kernel
theorem dX9_facesFitting_44 : decode cX9_facesFitting 44 = .ok (.getfield 19, 3) := by decide +kernel
theorem dX9_facesFitting_47 : decode cX9_facesFitting 47 = .ok (.aload_n 0, 1) := by decide +kernel
theorem dX9_facesFitting_48 : decode cX9_facesFitting 48 = .ok (.getfield 30, 3) := by decide +kernel
theorem dX9_facesFitting_51 : decode cX9_facesFitting 51 = .ok (.invokevirtual 277, 3) := by decide +kernel
theorem dX9_facesFitting_54 : decode cX9_facesFitting 54 = .ok (.iload_n 3, 1) := by decide +kernel
theorem dX9_facesFitting_55 : decode cX9_facesFitting 55 = .ok (.aload_n 0, 1) := by decide +kernel
theorem dX9_facesFitting_56 : decode cX9_facesFitting 56 = .ok (.getfield 61, 3) := by decide +kernel
theorem dX9_facesFitting_59 : decode cX9_facesFitting 59 = .ok (.iload_n 1, 1) := by decide +kernel
theorem dX9_facesFitting_60 : decode cX9_facesFitting 60 = .ok (.aload_n 0, 1) := by decide +kernel
theorem dX9_facesFitting_61 : decode cX9_facesFitting 61 = .ok (.getfield 19, 3) := by decide +kernel
theorem dX9_facesFitting_64 : decode cX9_facesFitting 64 = .ok (.aload_n 0, 1) := by decide +kernel
theorem dX9_facesFitting_65 : decode cX9_facesFitting 65 = .ok (.getfield 41, 3) := by decide +kernel
theorem dX9_facesFitting_68 : decode cX9_facesFitting 68 = .ok (.invokevirtual 307, 3) := by decide +kernel
theorem dX9_facesFitting_71 : decode cX9_facesFitting 71 = .ok (.invokestatic 124, 3) := by decide +kernel
theorem dX9_facesFitting_74 : decode cX9_facesFitting 74 = .ok (.iload 4, 2) := by decide +kernel
theorem dX9_facesFitting_76 : decode cX9_facesFitting 76 = .ok (.ishl, 1) := by decide +kernel
theorem dX9_facesFitting_77 : decode cX9_facesFitting 77 = .ok (.ior, 1) := by decide +kernel
theorem dX9_facesFitting_78 : decode cX9_facesFitting 78 = .ok (.istore_n 3, 1) := by decide +kernel
theorem dX9_facesFitting_79 : decode cX9_facesFitting 79 = .ok (.iconst 0, 1) := by decide +kernel
theorem dX9_facesFitting_80 : decode cX9_facesFitting 80 = .ok (.istore 5, 2) := by decide +kernel
theorem dX9_facesFitting_82 : decode cX9_facesFitting 82 = .ok (.iload 5, 2) := by decide +kernel
theorem dX9_facesFitting_84 : decode cX9_facesFitting 84 = .ok (.bipush 40, 2) := by decide +kernel
theorem dX9_facesFitting_86 : decode cX9_facesFitting 86 = .ok (.if_icmp .gt 32, 3) := by decide +kernel
theorem dX9_facesFitting_89 : decode cX9_facesFitting 89 = .ok (.aload_n 0, 1) := by decide +kernel
theorem dX9_facesFitting_90 : decode cX9_facesFitting 90 = .ok (.getfield 72, 3) := by decide +kernel
theorem dX9_facesFitting_93 : decode cX9_facesFitting 93 = .ok (.iload 4, 2) := by decide +kernel
theorem dX9_facesFitting_95 : decode cX9_facesFitting 95 = .ok (.bipush 41, 2) := by decide +kernel
theorem dX9_facesFitting_97 : decode cX9_facesFitting 97 = .ok (.imul, 1) := by decide +kernel
theorem dX9_facesFitting_98 : decode cX9_facesFitting 98 = .ok (.iload 5, 2) := by decide +kernel
theorem dX9_facesFitting_100 : decode cX9_facesFitting 100 = .ok (.iadd, 1) := by decide +kernel
theorem dX9_facesFitting_101 : decode cX9_facesFitting 101 = .ok (.aload_n 0, 1) := by decide +kernel
theorem dX9_facesFitting_102 : decode cX9_facesFitting 102 = .ok (.getfield 41, 3) := by decide +kernel
theorem dX9_facesFitting_105 : decode cX9_facesFitting 105 = .ok (.iload_n 2, 1) := by decide +kernel
theorem dX9_facesFitting_106 : decode cX9_facesFitting 106 = .ok (.iload 5, 2) := by decide +kernel
theorem dX9_facesFitting_108 : decode cX9_facesFitting 108 = .ok (.invokevirtual 157, 3) := by decide +kernel
theorem dX9_facesFitting_111 : decode cX9_facesFitting 111 = .ok (.iastore, 1) := by decide +kernel
theorem dX9_facesFitting_112 : decode cX9_facesFitting 112 = .ok (.iinc 5 1, 3) := by decide +kernel
theorem dX9_facesFitting_115 : decode cX9_facesFitting 115 = .ok (.goto (-33), 3) := by decide +kernel
theorem dX9_facesFitting_118 : decode cX9_facesFitting 118 = .ok (.iinc 4 1, 3) := by decide +kernel
theorem dX9_facesFitting_121 : decode cX9_facesFitting 121 = .ok (.goto (-116), 3) := by decide +kernel
theorem dX9_facesFitting_124 : decode cX9_facesFitting 124 = .ok (.iload_n 3, 1) := by decide +kernel
theorem dX9_facesFitting_125 : decode cX9_facesFitting 125 = .ok (.ireturn, 1) := by decide +kernel
theorem dX9_fewestCovering_0 : decode cX9_fewestCovering 0 = .ok (.iconst (-1), 1) := by decide +kernel
theorem dX9_fewestCovering_1 : decode cX9_fewestCovering 1 = .ok (.istore_n 1, 1) := by decide +kernel
theorem dX9_fewestCovering_2 : decode cX9_fewestCovering 2 = .ok (.bipush 8, 2) := by decide +kernel
theorem dX9_fewestCovering_4 : decode cX9_fewestCovering 4 = .ok (.istore_n 2, 1) := by decide +kernel
theorem dX9_fewestCovering_5 : decode cX9_fewestCovering 5 = .ok (.iconst 0, 1) := by decide +kernel
theorem dX9_fewestCovering_6 : decode cX9_fewestCovering 6 = .ok (.istore_n 3, 1) := by decide +kernel
theorem dX9_fewestCovering_7 : decode cX9_fewestCovering 7 = .ok (.iload_n 3, 1) := by decide +kernel
theorem dX9_fewestCovering_8 : decode cX9_fewestCovering 8 = .ok (.iconst 1, 1) := by decide +kernel
theorem dX9_fewestCovering_9 : decode cX9_fewestCovering 9 = .ok (.aload_n 0, 1) := by decide +kernel
theorem dX9_fewestCovering_10 : decode cX9_fewestCovering 10 = .ok (.getfield 19, 3) := by decide +kernel
theorem dX9_fewestCovering_13 : decode cX9_fewestCovering 13 = .ok (.getfield 189, 3) := by decide +kernel
theorem dX9_fewestCovering_16 : decode cX9_fewestCovering 16 = .ok (.ishl, 1) := by decide +kernel
theorem dX9_fewestCovering_17 : decode cX9_fewestCovering 17 = .ok (.if_icmp .ge 56, 3) := by decide +kernel
theorem dX9_fewestCovering_20 : decode cX9_fewestCovering 20 = .ok (.iload_n 3, 1) := by decide +kernel
theorem dX9_fewestCovering_21 : decode cX9_fewestCovering 21 = .ok (.invokestatic 240, 3) := by decide +kernel
theorem dX9_fewestCovering_24 : decode cX9_fewestCovering 24 = .ok (.istore 4, 2) := by decide +kernel
theorem dX9_fewestCovering_26 : decode cX9_fewestCovering 26 = .ok (.iload 4, 2) := by decide +kernel
theorem dX9_fewestCovering_28 : decode cX9_fewestCovering 28 = .ok (.iload_n 2, 1) := by decide +kernel
theorem dX9_fewestCovering_29 : decode cX9_fewestCovering 29 = .ok (.if_icmp .ge 38, 3) := by decide +kernel
theorem dX9_fewestCovering_32 : decode cX9_fewestCovering 32 = .ok (.aload_n 0, 1) := by decide +kernel
theorem dX9_fewestCovering_33 : decode cX9_fewestCovering 33 = .ok (.getfield 37, 3) := by decide +kernel
theorem dX9_fewestCovering_36 : decode cX9_fewestCovering 36 = .ok (.getfield 195, 3) := by decide +kernel
theorem dX9_fewestCovering_39 : decode cX9_fewestCovering 39 = .ok (.aload_n 0, 1) := by decide +kernel
theorem dX9_fewestCovering_40 : decode cX9_fewestCovering 40 = .ok (.getfield 19, 3) := by decide +kernel
theorem dX9_fewestCovering_43 : decode cX9_fewestCovering 43 = .ok (.getfield 186, 3) := by decide +kernel
theorem dX9_fewestCovering_46 : decode cX9_fewestCovering 46 = .ok (.laload, 1) := by decide +kernel
theorem dX9_fewestCovering_47 : decode cX9_fewestCovering 47 = .ok (.aload_n 0, 1) := by decide +kernel
theorem dX9_fewestCovering_48 : decode cX9_fewestCovering 48 = .ok (.iload_n 3, 1) := by decide +kernel
theorem dX9_fewestCovering_49 : decode cX9_fewestCovering 49 = .ok (.invokevirtual 425, 3) := by decide +kernel
theorem dX9_fewestCovering_52 : decode cX9_fewestCovering 52 = .ok (.ldc2_w 293, 3) := by decide +kernel
theorem dX9_fewestCovering_55 : decode cX9_fewestCovering 55 = .ok (.lxor, 1) := by decide +kernel
theorem dX9_fewestCovering_56 : decode cX9_fewestCovering 56 = .ok (.land, 1) := by decide +kernel
theorem dX9_fewestCovering_57 : decode cX9_fewestCovering 57 = .ok (.lconst 0, 1) := by decide +kernel
theorem dX9_fewestCovering_58 : decode cX9_fewestCovering 58 = .ok (.lcmp, 1) := by decide +kernel
theorem dX9_fewestCovering_59 : decode cX9_fewestCovering 59 = .ok (.ifCond .ne 8, 3) := by decide +kernel
theorem dX9_fewestCovering_62 : decode cX9_fewestCovering 62 = .ok (.iload 4, 2) := by decide +kernel
theorem dX9_fewestCovering_64 : decode cX9_fewestCovering 64 = .ok (.istore_n 2, 1) := by decide +kernel
theorem dX9_fewestCovering_65 : decode cX9_fewestCovering 65 = .ok (.iload_n 3, 1) := by decide +kernel
theorem dX9_fewestCovering_66 : decode cX9_fewestCovering 66 = .ok (.istore_n 1, 1) := by decide +kernel
theorem dX9_fewestCovering_67 : decode cX9_fewestCovering 67 = .ok (.iinc 3 1, 3) := by decide +kernel
theorem dX9_fewestCovering_70 : decode cX9_fewestCovering 70 = .ok (.goto (-63), 3) := by decide +kernel
theorem dX9_fewestCovering_73 : decode cX9_fewestCovering 73 = .ok (.iload_n 1, 1) := by decide +kernel
theorem dX9_fewestCovering_74 : decode cX9_fewestCovering 74 = .ok (.ireturn, 1) := by decide +kernel
theorem dX9_fogDrawn_0 : decode cX9_fogDrawn 0 = .ok (.iload_n 1, 1) := by decide +kernel
theorem dX9_fogDrawn_1 : decode cX9_fogDrawn 1 = .ok (.i2l, 1) := by decide +kernel
theorem dX9_fogDrawn_2 : decode cX9_fogDrawn 2 = .ok (.lstore_n 2, 1) := by decide +kernel
theorem dX9_fogDrawn_3 : decode cX9_fogDrawn 3 = .ok (.iconst 0, 1) := by decide +kernel
theorem dX9_fogDrawn_4 : decode cX9_fogDrawn 4 = .ok (.istore 4, 2) := by decide +kernel
theorem dX9_fogDrawn_6 : decode cX9_fogDrawn 6 = .ok (.iconst 0, 1) := by decide +kernel
theorem dX9_fogDrawn_7 : decode cX9_fogDrawn 7 = .ok (.istore 5, 2) := by decide +kernel
theorem dX9_fogDrawn_9 : decode cX9_fogDrawn 9 = .ok (.iload 5, 2) := by decide +kernel
theorem dX9_fogDrawn_11 : decode cX9_fogDrawn 11 = .ok (.aload_n 0, 1) := by decide +kernel
theorem dX9_fogDrawn_12 : decode cX9_fogDrawn 12 = .ok (.getfield 19, 3) := by decide +kernel
theorem dX9_fogDrawn_15 : decode cX9_fogDrawn 15 = .ok (.getfield 189, 3) := by decide +kernel
theorem dX9_fogDrawn_18 : decode cX9_fogDrawn 18 = .ok (.if_icmp .ge 60, 3) := by decide +kernel
theorem dX9_fogDrawn_21 : decode cX9_fogDrawn 21 = .ok (.ldc2_w 435, 3) := by decide +kernel
theorem dX9_fogDrawn_24 : decode cX9_fogDrawn 24 = .ok (.lload_n 2, 1) := by decide +kernel
theorem dX9_fogDrawn_25 : decode cX9_fogDrawn 25 = .ok (.lmul, 1) := by decide +kernel
theorem dX9_fogDrawn_26 : decode cX9_fogDrawn 26 = .ok (.ldc2_w 437, 3) := by decide +kernel
theorem dX9_fogDrawn_29 : decode cX9_fogDrawn 29 = .ok (.ladd, 1) := by decide +kernel
theorem dX9_fogDrawn_30 : decode cX9_fogDrawn 30 = .ok (.ldc2_w 439, 3) := by decide +kernel
theorem dX9_fogDrawn_33 : decode cX9_fogDrawn 33 = .ok (.land, 1) := by decide +kernel
theorem dX9_fogDrawn_34 : decode cX9_fogDrawn 34 = .ok (.lstore_n 2, 1) := by decide +kernel
theorem dX9_fogDrawn_35 : decode cX9_fogDrawn 35 = .ok (.iload 4, 2) := by decide +kernel
theorem dX9_fogDrawn_37 : decode cX9_fogDrawn 37 = .ok (.lload_n 2, 1) := by decide +kernel
theorem dX9_fogDrawn_38 : decode cX9_fogDrawn 38 = .ok (.ldc2_w 441, 3) := by decide +kernel
theorem dX9_fogDrawn_41 : decode cX9_fogDrawn 41 = .ok (.ldiv, 1) := by decide +kernel
theorem dX9_fogDrawn_42 : decode cX9_fogDrawn 42 = .ok (.ldc2_w 443, 3) := by decide +kernel
theorem dX9_fogDrawn_45 : decode cX9_fogDrawn 45 = .ok (.lrem, 1) := by decide +kernel
theorem dX9_fogDrawn_46 : decode cX9_fogDrawn 46 = .ok (.aload_n 0, 1) := by decide +kernel
theorem dX9_fogDrawn_47 : decode cX9_fogDrawn 47 = .ok (.getfield 19, 3) := by decide +kernel
theorem dX9_fogDrawn_50 : decode cX9_fogDrawn 50 = .ok (.getfield 376, 3) := by decide +kernel
theorem dX9_fogDrawn_53 : decode cX9_fogDrawn 53 = .ok (.i2l, 1) := by decide +kernel
theorem dX9_fogDrawn_54 : decode cX9_fogDrawn 54 = .ok (.lcmp, 1) := by decide +kernel
theorem dX9_fogDrawn_55 : decode cX9_fogDrawn 55 = .ok (.ifCond .ge 7, 3) := by decide +kernel
theorem dX9_fogDrawn_58 : decode cX9_fogDrawn 58 = .ok (.iconst 1, 1) := by decide +kernel
theorem dX9_fogDrawn_59 : decode cX9_fogDrawn 59 = .ok (.goto 4, 3) := by decide +kernel
theorem dX9_fogDrawn_62 : decode cX9_fogDrawn 62 = .ok (.iconst 0, 1) := by decide +kernel
theorem dX9_fogDrawn_63 : decode cX9_fogDrawn 63 = .ok (.invokestatic 124, 3) := by decide +kernel
theorem dX9_fogDrawn_66 : decode cX9_fogDrawn 66 = .ok (.iload 5, 2) := by decide +kernel
theorem dX9_fogDrawn_68 : decode cX9_fogDrawn 68 = .ok (.ishl, 1) := by decide +kernel
theorem dX9_fogDrawn_69 : decode cX9_fogDrawn 69 = .ok (.ior, 1) := by decide +kernel
theorem dX9_fogDrawn_70 : decode cX9_fogDrawn 70 = .ok (.istore 4, 2) := by decide +kernel
theorem dX9_fogDrawn_72 : decode cX9_fogDrawn 72 = .ok (.iinc 5 1, 3) := by decide +kernel
theorem dX9_fogDrawn_75 : decode cX9_fogDrawn 75 = .ok (.goto (-66), 3) := by decide +kernel
theorem dX9_fogDrawn_78 : decode cX9_fogDrawn 78 = .ok (.iload 4, 2) := by decide +kernel
theorem dX9_fogDrawn_80 : decode cX9_fogDrawn 80 = .ok (.ireturn, 1) := by decide +kernel
theorem dX9_gain_0 : decode cX9_gain 0 = .ok (.aload_n 0, 1) := by decide +kernel
theorem dX9_gain_1 : decode cX9_gain 1 = .ok (.iload_n 3, 1) := by decide +kernel
theorem dX9_gain_2 : decode cX9_gain 2 = .ok (.iload_n 1, 1) := by decide +kernel
theorem dX9_gain_3 : decode cX9_gain 3 = .ok (.ishl, 1) := by decide +kernel
theorem dX9_gain_4 : decode cX9_gain 4 = .ok (.iload 4, 2) := by decide +kernel
theorem dX9_gain_6 : decode cX9_gain 6 = .ok (.iload_n 2, 1) := by decide +kernel
theorem dX9_gain_7 : decode cX9_gain 7 = .ok (.ishl, 1) := by decide +kernel
theorem dX9_gain_8 : decode cX9_gain 8 = .ok (.ior, 1) := by decide +kernel
theorem dX9_gain_9 : decode cX9_gain 9 = .ok (.invokevirtual 370, 3) := by decide +kernel
theorem dX9_gain_12 : decode cX9_gain 12 = .ok (.aload_n 0, 1) := by decide +kernel
theorem dX9_gain_13 : decode cX9_gain 13 = .ok (.getfield 41, 3) := by decide +kernel
theorem dX9_gain_16 : decode cX9_gain 16 = .ok (.iload_n 1, 1) := by decide +kernel
theorem dX9_gain_17 : decode cX9_gain 17 = .ok (.invokevirtual 445, 3) := by decide +kernel
theorem dX9_gain_20 : decode cX9_gain 20 = .ok (.ireturn, 1) := by decide +kernel
theorem dX9_leftAtWorst_0 : decode cX9_leftAtWorst 0 = .ok (.iconst 0, 1) := by decide +kernel
theorem dX9_leftAtWorst_1 : decode cX9_leftAtWorst 1 = .ok (.istore_n 3, 1) := by decide +kernel
theorem dX9_leftAtWorst_2 : decode cX9_leftAtWorst 2 = .ok (.iconst 0, 1) := by decide +kernel
theorem dX9_leftAtWorst_3 : decode cX9_leftAtWorst 3 = .ok (.istore 4, 2) := by decide +kernel
theorem dX9_leftAtWorst_5 : decode cX9_leftAtWorst 5 = .ok (.iload 4, 2) := by decide +kernel
theorem dX9_leftAtWorst_7 : decode cX9_leftAtWorst 7 = .ok (.iconst 4, 1) := by decide +kernel
theorem dX9_leftAtWorst_8 : decode cX9_leftAtWorst 8 = .ok (.if_icmp .ge 101, 3) := by decide +kernel
theorem dX9_leftAtWorst_11 : decode cX9_leftAtWorst 11 = .ok (.iconst 0, 1) := by decide +kernel
theorem dX9_leftAtWorst_12 : decode cX9_leftAtWorst 12 = .ok (.istore 5, 2) := by decide +kernel
theorem dX9_leftAtWorst_14 : decode cX9_leftAtWorst 14 = .ok (.iconst 0, 1) := by decide +kernel
theorem dX9_leftAtWorst_15 : decode cX9_leftAtWorst 15 = .ok (.istore 6, 2) := by decide +kernel
theorem dX9_leftAtWorst_17 : decode cX9_leftAtWorst 17 = .ok (.iload 6, 2) := by decide +kernel
theorem dX9_leftAtWorst_19 : decode cX9_leftAtWorst 19 = .ok (.iconst 4, 1) := by decide +kernel
theorem dX9_leftAtWorst_20 : decode cX9_leftAtWorst 20 = .ok (.if_icmp .ge 76, 3) := by decide +kernel
theorem dX9_leftAtWorst_23 : decode cX9_leftAtWorst 23 = .ok (.iload_n 1, 1) := by decide +kernel
theorem dX9_leftAtWorst_24 : decode cX9_leftAtWorst 24 = .ok (.iload 4, 2) := by decide +kernel
theorem dX9_leftAtWorst_26 : decode cX9_leftAtWorst 26 = .ok (.ishr, 1) := by decide +kernel
theorem dX9_leftAtWorst_27 : decode cX9_leftAtWorst 27 = .ok (.iload_n 1, 1) := by decide +kernel
theorem dX9_leftAtWorst_28 : decode cX9_leftAtWorst 28 = .ok (.iload 6, 2) := by decide +kernel
theorem dX9_leftAtWorst_30 : decode cX9_leftAtWorst 30 = .ok (.ishr, 1) := by decide +kernel
theorem dX9_leftAtWorst_31 : decode cX9_leftAtWorst 31 = .ok (.iand, 1) := by decide +kernel
theorem dX9_leftAtWorst_32 : decode cX9_leftAtWorst 32 = .ok (.iconst 1, 1) := by decide +kernel
theorem dX9_leftAtWorst_33 : decode cX9_leftAtWorst 33 = .ok (.iand, 1) := by decide +kernel
theorem dX9_leftAtWorst_34 : decode cX9_leftAtWorst 34 = .ok (.iconst 1, 1) := by decide +kernel
theorem dX9_leftAtWorst_35 : decode cX9_leftAtWorst 35 = .ok (.if_icmp .ne 7, 3) := by decide +kernel
theorem dX9_leftAtWorst_38 : decode cX9_leftAtWorst 38 = .ok (.iconst 1, 1) := by decide +kernel
theorem dX9_leftAtWorst_39 : decode cX9_leftAtWorst 39 = .ok (.goto 4, 3) := by decide +kernel
theorem dX9_leftAtWorst_42 : decode cX9_leftAtWorst 42 = .ok (.iconst 0, 1) := by decide +kernel
theorem dX9_leftAtWorst_43 : decode cX9_leftAtWorst 43 = .ok (.istore 7, 2) := by decide +kernel
theorem dX9_leftAtWorst_45 : decode cX9_leftAtWorst 45 = .ok (.iload 5, 2) := by decide +kernel
theorem dX9_leftAtWorst_47 : decode cX9_leftAtWorst 47 = .ok (.iload 7, 2) := by decide +kernel
theorem dX9_leftAtWorst_49 : decode cX9_leftAtWorst 49 = .ok (.ifCond .eq 34, 3) := by decide +kernel
theorem dX9_leftAtWorst_52 : decode cX9_leftAtWorst 52 = .ok (.aload_n 0, 1) := by decide +kernel
theorem dX9_leftAtWorst_53 : decode cX9_leftAtWorst 53 = .ok (.getfield 72, 3) := by decide +kernel
theorem dX9_leftAtWorst_56 : decode cX9_leftAtWorst 56 = .ok (.iload 4, 2) := by decide +kernel
theorem dX9_leftAtWorst_58 : decode cX9_leftAtWorst 58 = .ok (.bipush 41, 2) := by decide +kernel
theorem dX9_leftAtWorst_60 : decode cX9_leftAtWorst 60 = .ok (.imul, 1) := by decide +kernel
theorem dX9_leftAtWorst_61 : decode cX9_leftAtWorst 61 = .ok (.iload_n 2, 1) := by decide +kernel
theorem dX9_leftAtWorst_62 : decode cX9_leftAtWorst 62 = .ok (.iadd, 1) := by decide +kernel
theorem dX9_leftAtWorst_63 : decode cX9_leftAtWorst 63 = .ok (.iaload, 1) := by decide +kernel
theorem dX9_leftAtWorst_64 : decode cX9_leftAtWorst 64 = .ok (.aload_n 0, 1) := by decide +kernel
theorem dX9_leftAtWorst_65 : decode cX9_leftAtWorst 65 = .ok (.getfield 72, 3) := by decide +kernel
theorem dX9_leftAtWorst_68 : decode cX9_leftAtWorst 68 = .ok (.iload 6, 2) := by decide +kernel
theorem dX9_leftAtWorst_70 : decode cX9_leftAtWorst 70 = .ok (.bipush 41, 2) := by decide +kernel
theorem dX9_leftAtWorst_72 : decode cX9_leftAtWorst 72 = .ok (.imul, 1) := by decide +kernel
theorem dX9_leftAtWorst_73 : decode cX9_leftAtWorst 73 = .ok (.iload_n 2, 1) := by decide +kernel
theorem dX9_leftAtWorst_74 : decode cX9_leftAtWorst 74 = .ok (.iadd, 1) := by decide +kernel
theorem dX9_leftAtWorst_75 : decode cX9_leftAtWorst 75 = .ok (.iaload, 1) := by decide +kernel
theorem dX9_leftAtWorst_76 : decode cX9_leftAtWorst 76 = .ok (.if_icmp .ne 7, 3) := by decide +kernel
theorem dX9_leftAtWorst_79 : decode cX9_leftAtWorst 79 = .ok (.iconst 1, 1) := by decide +kernel
theorem dX9_leftAtWorst_80 : decode cX9_leftAtWorst 80 = .ok (.goto 4, 3) := by decide +kernel
theorem dX9_leftAtWorst_83 : decode cX9_leftAtWorst 83 = .ok (.iconst 0, 1) := by decide +kernel
theorem dX9_leftAtWorst_84 : decode cX9_leftAtWorst 84 = .ok (.invokestatic 124, 3) := by decide +kernel
theorem dX9_leftAtWorst_87 : decode cX9_leftAtWorst 87 = .ok (.iadd, 1) := by decide +kernel
theorem dX9_leftAtWorst_88 : decode cX9_leftAtWorst 88 = .ok (.istore 5, 2) := by decide +kernel
theorem dX9_leftAtWorst_90 : decode cX9_leftAtWorst 90 = .ok (.iinc 6 1, 3) := by decide +kernel
theorem dX9_leftAtWorst_93 : decode cX9_leftAtWorst 93 = .ok (.goto (-76), 3) := by decide +kernel
theorem dX9_leftAtWorst_96 : decode cX9_leftAtWorst 96 = .ok (.iload_n 3, 1) := by decide +kernel
theorem dX9_leftAtWorst_97 : decode cX9_leftAtWorst 97 = .ok (.iload 5, 2) := by decide +kernel
theorem dX9_leftAtWorst_99 : decode cX9_leftAtWorst 99 = .ok (.invokestatic 219, 3) := by decide +kernel
theorem dX9_leftAtWorst_102 : decode cX9_leftAtWorst 102 = .ok (.istore_n 3, 1) := by decide +kernel
theorem dX9_leftAtWorst_103 : decode cX9_leftAtWorst 103 = .ok (.iinc 4 1, 3) := by decide +kernel
theorem dX9_leftAtWorst_106 : decode cX9_leftAtWorst 106 = .ok (.goto (-101), 3) := by decide +kernel
theorem dX9_leftAtWorst_109 : decode cX9_leftAtWorst 109 = .ok (.iload_n 3, 1) := by decide +kernel
theorem dX9_leftAtWorst_110 : decode cX9_leftAtWorst 110 = .ok (.ireturn, 1) := by decide +kernel
theorem dX9_refusalOfRow_0 : decode cX9_refusalOfRow 0 = .ok (.aload_n 0, 1) := by decide +kernel
theorem dX9_refusalOfRow_1 : decode cX9_refusalOfRow 1 = .ok (.getfield 19, 3) := by decide +kernel
theorem dX9_refusalOfRow_4 : decode cX9_refusalOfRow 4 = .ok (.getfield 106, 3) := by decide +kernel
theorem dX9_refusalOfRow_7 : decode cX9_refusalOfRow 7 = .ok (.ifCond .eq 10, 3) := by decide +kernel
theorem dX9_refusalOfRow_10 : decode cX9_refusalOfRow 10 = .ok (.iload_n 1, 1) := by decide +kernel
theorem dX9_refusalOfRow_11 : decode cX9_refusalOfRow 11 = .ok (.invokestatic 388, 3) := by decide +kernel
theorem dX9_refusalOfRow_14 : decode cX9_refusalOfRow 14 = .ok (.ifCond .ne 6, 3) := by decide +kernel
theorem dX9_refusalOfRow_17 : decode cX9_refusalOfRow 17 = .ok (.bipush (-2), 2) := by decide +kernel
theorem dX9_refusalOfRow_19 : decode cX9_refusalOfRow 19 = .ok (.ireturn, 1) := by decide +kernel
theorem dX9_refusalOfRow_20 : decode cX9_refusalOfRow 20 = .ok (.aload_n 0, 1) := by decide +kernel
theorem dX9_refusalOfRow_21 : decode cX9_refusalOfRow 21 = .ok (.getfield 61, 3) := by decide +kernel
theorem dX9_refusalOfRow_24 : decode cX9_refusalOfRow 24 = .ok (.iload_n 1, 1) := by decide +kernel
theorem dX9_refusalOfRow_25 : decode cX9_refusalOfRow 25 = .ok (.invokevirtual 395, 3) := by decide +kernel
theorem dX9_refusalOfRow_28 : decode cX9_refusalOfRow 28 = .ok (.ifCond .eq 6, 3) := by decide +kernel
theorem dX9_refusalOfRow_31 : decode cX9_refusalOfRow 31 = .ok (.bipush (-6), 2) := by decide +kernel
theorem dX9_refusalOfRow_33 : decode cX9_refusalOfRow 33 = .ok (.ireturn, 1) := by decide +kernel
theorem dX9_refusalOfRow_34 : decode cX9_refusalOfRow 34 = .ok (.aload_n 0, 1) := by decide +kernel
theorem dX9_refusalOfRow_35 : decode cX9_refusalOfRow 35 = .ok (.getfield 61, 3) := by decide +kernel
theorem dX9_refusalOfRow_38 : decode cX9_refusalOfRow 38 = .ok (.iload_n 1, 1) := by decide +kernel
theorem dX9_refusalOfRow_39 : decode cX9_refusalOfRow 39 = .ok (.aload_n 0, 1) := by decide +kernel
theorem dX9_refusalOfRow_40 : decode cX9_refusalOfRow 40 = .ok (.getfield 19, 3) := by decide +kernel
theorem dX9_refusalOfRow_43 : decode cX9_refusalOfRow 43 = .ok (.invokevirtual 428, 3) := by decide +kernel
theorem dX9_refusalOfRow_46 : decode cX9_refusalOfRow 46 = .ok (.ifCond .eq 7, 3) := by decide +kernel
theorem dX9_refusalOfRow_49 : decode cX9_refusalOfRow 49 = .ok (.iconst 0, 1) := by decide +kernel
theorem dX9_refusalOfRow_50 : decode cX9_refusalOfRow 50 = .ok (.goto 5, 3) := by decide +kernel
theorem dX9_refusalOfRow_53 : decode cX9_refusalOfRow 53 = .ok (.bipush (-2), 2) := by decide +kernel
theorem dX9_refusalOfRow_55 : decode cX9_refusalOfRow 55 = .ok (.ireturn, 1) := by decide +kernel
theorem dX9_refusalOfSeen_0 : decode cX9_refusalOfSeen 0 = .ok (.aload_n 0, 1) := by decide +kernel
theorem dX9_refusalOfSeen_1 : decode cX9_refusalOfSeen 1 = .ok (.getfield 19, 3) := by decide +kernel
theorem dX9_refusalOfSeen_4 : decode cX9_refusalOfSeen 4 = .ok (.iload_n 2, 1) := by decide +kernel
theorem dX9_refusalOfSeen_5 : decode cX9_refusalOfSeen 5 = .ok (.i2l, 1) := by decide +kernel
theorem dX9_refusalOfSeen_6 : decode cX9_refusalOfSeen 6 = .ok (.invokevirtual 128, 3) := by decide +kernel
theorem dX9_refusalOfSeen_9 : decode cX9_refusalOfSeen 9 = .ok (.ifCond .eq 11, 3) := by decide +kernel
theorem dX9_refusalOfSeen_12 : decode cX9_refusalOfSeen 12 = .ok (.aload_n 0, 1) := by decide +kernel
theorem dX9_refusalOfSeen_13 : decode cX9_refusalOfSeen 13 = .ok (.iload_n 1, 1) := by decide +kernel
theorem dX9_refusalOfSeen_14 : decode cX9_refusalOfSeen 14 = .ok (.invokevirtual 317, 3) := by decide +kernel
theorem dX9_refusalOfSeen_17 : decode cX9_refusalOfSeen 17 = .ok (.goto 5, 3) := by decide +kernel
theorem dX9_refusalOfSeen_20 : decode cX9_refusalOfSeen 20 = .ok (.bipush (-2), 2) := by decide +kernel
theorem dX9_refusalOfSeen_22 : decode cX9_refusalOfSeen 22 = .ok (.ireturn, 1) := by decide +kernel
theorem dX9_straightWay_0 : decode cX9_straightWay 0 = .ok (.aload_n 0, 1) := by decide +kernel
theorem dX9_straightWay_1 : decode cX9_straightWay 1 = .ok (.getfield 54, 3) := by decide +kernel
theorem dX9_straightWay_4 : decode cX9_straightWay 4 = .ok (.aload_n 0, 1) := by decide +kernel
theorem dX9_straightWay_5 : decode cX9_straightWay 5 = .ok (.getfield 19, 3) := by decide +kernel
theorem dX9_straightWay_8 : decode cX9_straightWay 8 = .ok (.invokevirtual 422, 3) := by decide +kernel
theorem dX9_straightWay_11 : decode cX9_straightWay 11 = .ok (.aload_n 0, 1) := by decide +kernel
theorem dX9_straightWay_12 : decode cX9_straightWay 12 = .ok (.getfield 19, 3) := by decide +kernel
theorem dX9_straightWay_15 : decode cX9_straightWay 15 = .ok (.invokevirtual 116, 3) := by decide +kernel
theorem dX9_straightWay_18 : decode cX9_straightWay 18 = .ok (.ldc2_w 293, 3) := by decide +kernel
theorem dX9_straightWay_21 : decode cX9_straightWay 21 = .ok (.lxor, 1) := by decide +kernel
theorem dX9_straightWay_22 : decode cX9_straightWay 22 = .ok (.land, 1) := by decide +kernel
theorem dX9_straightWay_23 : decode cX9_straightWay 23 = .ok (.invokevirtual 215, 3) := by decide +kernel
theorem dX9_straightWay_26 : decode cX9_straightWay 26 = .ok (.aload_n 0, 1) := by decide +kernel
theorem dX9_straightWay_27 : decode cX9_straightWay 27 = .ok (.getfield 54, 3) := by decide +kernel
theorem dX9_straightWay_30 : decode cX9_straightWay 30 = .ok (.iload_n 1, 1) := by decide +kernel
theorem dX9_straightWay_31 : decode cX9_straightWay 31 = .ok (.iload_n 2, 1) := by decide +kernel
theorem dX9_straightWay_32 : decode cX9_straightWay 32 = .ok (.invokevirtual 231, 3) := by decide +kernel
theorem dX9_straightWay_35 : decode cX9_straightWay 35 = .ok (.ireturn, 1) := by decide +kernel
theorem dX9_tellByLaw_0 : decode cX9_tellByLaw 0 = .ok (.aload_n 0, 1) := by decide +kernel
theorem dX9_tellByLaw_1 : decode cX9_tellByLaw 1 = .ok (.getfield 30, 3) := by decide +kernel
theorem dX9_tellByLaw_4 : decode cX9_tellByLaw 4 = .ok (.aload_n 0, 1) := by decide +kernel
theorem dX9_tellByLaw_5 : decode cX9_tellByLaw 5 = .ok (.getfield 19, 3) := by decide +kernel
theorem dX9_tellByLaw_8 : decode cX9_tellByLaw 8 = .ok (.invokevirtual 271, 3) := by decide +kernel
theorem dX9_tellByLaw_11 : decode cX9_tellByLaw 11 = .ok (.aload_n 0, 1) := by decide +kernel
theorem dX9_tellByLaw_12 : decode cX9_tellByLaw 12 = .ok (.getfield 30, 3) := by decide +kernel
theorem dX9_tellByLaw_15 : decode cX9_tellByLaw 15 = .ok (.iload_n 1, 1) := by decide +kernel
theorem dX9_tellByLaw_16 : decode cX9_tellByLaw 16 = .ok (.putfield 434, 3) := by decide +kernel
theorem dX9_tellByLaw_19 : decode cX9_tellByLaw 19 = .ok (.aload_n 0, 1) := by decide +kernel
theorem dX9_tellByLaw_20 : decode cX9_tellByLaw 20 = .ok (.getfield 41, 3) := by decide +kernel
theorem dX9_tellByLaw_23 : decode cX9_tellByLaw 23 = .ok (.aload_n 0, 1) := by decide +kernel
theorem dX9_tellByLaw_24 : decode cX9_tellByLaw 24 = .ok (.getfield 19, 3) := by decide +kernel
theorem dX9_tellByLaw_27 : decode cX9_tellByLaw 27 = .ok (.aload_n 0, 1) := by decide +kernel
theorem dX9_tellByLaw_28 : decode cX9_tellByLaw 28 = .ok (.getfield 30, 3) := by decide +kernel
theorem dX9_tellByLaw_31 : decode cX9_tellByLaw 31 = .ok (.invokevirtual 277, 3) := by decide +kernel
theorem dX9_tellByLaw_34 : decode cX9_tellByLaw 34 = .ok (.return_, 1) := by decide +kernel
theorem dX9_tellInFog_0 : decode cX9_tellInFog 0 = .ok (.aload_n 0, 1) := by decide +kernel
theorem dX9_tellInFog_1 : decode cX9_tellInFog 1 = .ok (.getfield 30, 3) := by decide +kernel
theorem dX9_tellInFog_4 : decode cX9_tellInFog 4 = .ok (.aload_n 0, 1) := by decide +kernel
theorem dX9_tellInFog_5 : decode cX9_tellInFog 5 = .ok (.getfield 19, 3) := by decide +kernel
theorem dX9_tellInFog_8 : decode cX9_tellInFog 8 = .ok (.invokevirtual 271, 3) := by decide +kernel
theorem dX9_tellInFog_11 : decode cX9_tellInFog 11 = .ok (.aload_n 0, 1) := by decide +kernel
theorem dX9_tellInFog_12 : decode cX9_tellInFog 12 = .ok (.getfield 30, 3) := by decide +kernel
theorem dX9_tellInFog_15 : decode cX9_tellInFog 15 = .ok (.dup, 1) := by decide +kernel
theorem dX9_tellInFog_16 : decode cX9_tellInFog 16 = .ok (.getfield 274, 3) := by decide +kernel
theorem dX9_tellInFog_19 : decode cX9_tellInFog 19 = .ok (.iload_n 1, 1) := by decide +kernel
theorem dX9_tellInFog_20 : decode cX9_tellInFog 20 = .ok (.iconst (-1), 1) := by decide +kernel
theorem dX9_tellInFog_21 : decode cX9_tellInFog 21 = .ok (.ixor, 1) := by decide +kernel
theorem dX9_tellInFog_22 : decode cX9_tellInFog 22 = .ok (.iand, 1) := by decide +kernel
theorem dX9_tellInFog_23 : decode cX9_tellInFog 23 = .ok (.putfield 274, 3) := by decide +kernel
theorem dX9_tellInFog_26 : decode cX9_tellInFog 26 = .ok (.aload_n 0, 1) := by decide +kernel
theorem dX9_tellInFog_27 : decode cX9_tellInFog 27 = .ok (.getfield 41, 3) := by decide +kernel
theorem dX9_tellInFog_30 : decode cX9_tellInFog 30 = .ok (.aload_n 0, 1) := by decide +kernel
theorem dX9_tellInFog_31 : decode cX9_tellInFog 31 = .ok (.getfield 19, 3) := by decide +kernel
theorem dX9_tellInFog_34 : decode cX9_tellInFog 34 = .ok (.aload_n 0, 1) := by decide +kernel
theorem dX9_tellInFog_35 : decode cX9_tellInFog 35 = .ok (.getfield 30, 3) := by decide +kernel
theorem dX9_tellInFog_38 : decode cX9_tellInFog 38 = .ok (.invokevirtual 277, 3) := by decide +kernel
theorem dX9_tellInFog_41 : decode cX9_tellInFog 41 = .ok (.return_, 1) := by decide +kernel
theorem dX9_walkAnew_0 : decode cX9_walkAnew 0 = .ok (.aload_n 0, 1) := by decide +kernel
theorem dX9_walkAnew_1 : decode cX9_walkAnew 1 = .ok (.getfield 30, 3) := by decide +kernel
theorem dX9_walkAnew_4 : decode cX9_walkAnew 4 = .ok (.aload_n 0, 1) := by decide +kernel
theorem dX9_walkAnew_5 : decode cX9_walkAnew 5 = .ok (.getfield 19, 3) := by decide +kernel
theorem dX9_walkAnew_8 : decode cX9_walkAnew 8 = .ok (.invokevirtual 271, 3) := by decide +kernel
theorem dX9_walkAnew_11 : decode cX9_walkAnew 11 = .ok (.aload_n 0, 1) := by decide +kernel
theorem dX9_walkAnew_12 : decode cX9_walkAnew 12 = .ok (.getfield 37, 3) := by decide +kernel
theorem dX9_walkAnew_15 : decode cX9_walkAnew 15 = .ok (.aload_n 0, 1) := by decide +kernel
theorem dX9_walkAnew_16 : decode cX9_walkAnew 16 = .ok (.getfield 19, 3) := by decide +kernel
theorem dX9_walkAnew_19 : decode cX9_walkAnew 19 = .ok (.aload_n 0, 1) := by decide +kernel
theorem dX9_walkAnew_20 : decode cX9_walkAnew 20 = .ok (.getfield 30, 3) := by decide +kernel
theorem dX9_walkAnew_23 : decode cX9_walkAnew 23 = .ok (.invokevirtual 277, 3) := by decide +kernel
theorem dX9_walkAnew_26 : decode cX9_walkAnew 26 = .ok (.aload_n 0, 1) := by decide +kernel
theorem dX9_walkAnew_27 : decode cX9_walkAnew 27 = .ok (.getfield 47, 3) := by decide +kernel
theorem dX9_walkAnew_30 : decode cX9_walkAnew 30 = .ok (.iconst 0, 1) := by decide +kernel
theorem dX9_walkAnew_31 : decode cX9_walkAnew 31 = .ok (.putfield 415, 3) := by decide +kernel
theorem dX9_walkAnew_34 : decode cX9_walkAnew 34 = .ok (.return_, 1) := by decide +kernel
theorem dX9_widowsIn_0 : decode cX9_widowsIn 0 = .ok (.iconst 0, 1) := by decide +kernel
theorem dX9_widowsIn_1 : decode cX9_widowsIn 1 = .ok (.istore_n 2, 1) := by decide +kernel
theorem dX9_widowsIn_2 : decode cX9_widowsIn 2 = .ok (.iconst 0, 1) := by decide +kernel
theorem dX9_widowsIn_3 : decode cX9_widowsIn 3 = .ok (.istore_n 3, 1) := by decide +kernel
theorem dX9_widowsIn_4 : decode cX9_widowsIn 4 = .ok (.iload_n 3, 1) := by decide +kernel
theorem dX9_widowsIn_5 : decode cX9_widowsIn 5 = .ok (.aload_n 0, 1) := by decide +kernel
theorem dX9_widowsIn_6 : decode cX9_widowsIn 6 = .ok (.getfield 19, 3) := by decide +kernel
theorem dX9_widowsIn_9 : decode cX9_widowsIn 9 = .ok (.getfield 189, 3) := by decide +kernel
theorem dX9_widowsIn_12 : decode cX9_widowsIn 12 = .ok (.if_icmp .ge 30, 3) := by decide +kernel
theorem dX9_widowsIn_15 : decode cX9_widowsIn 15 = .ok (.iload_n 2, 1) := by decide +kernel
theorem dX9_widowsIn_16 : decode cX9_widowsIn 16 = .ok (.aload_n 0, 1) := by decide +kernel
theorem dX9_widowsIn_17 : decode cX9_widowsIn 17 = .ok (.getfield 37, 3) := by decide +kernel
theorem dX9_widowsIn_20 : decode cX9_widowsIn 20 = .ok (.getfield 171, 3) := by decide +kernel
theorem dX9_widowsIn_23 : decode cX9_widowsIn 23 = .ok (.iload_n 3, 1) := by decide +kernel
theorem dX9_widowsIn_24 : decode cX9_widowsIn 24 = .ok (.laload, 1) := by decide +kernel
theorem dX9_widowsIn_25 : decode cX9_widowsIn 25 = .ok (.iload_n 1, 1) := by decide +kernel
theorem dX9_widowsIn_26 : decode cX9_widowsIn 26 = .ok (.invokestatic 120, 3) := by decide +kernel
theorem dX9_widowsIn_29 : decode cX9_widowsIn 29 = .ok (.invokestatic 124, 3) := by decide +kernel
theorem dX9_widowsIn_32 : decode cX9_widowsIn 32 = .ok (.iload_n 3, 1) := by decide +kernel
theorem dX9_widowsIn_33 : decode cX9_widowsIn 33 = .ok (.ishl, 1) := by decide +kernel
theorem dX9_widowsIn_34 : decode cX9_widowsIn 34 = .ok (.ior, 1) := by decide +kernel
theorem dX9_widowsIn_35 : decode cX9_widowsIn 35 = .ok (.istore_n 2, 1) := by decide +kernel
theorem dX9_widowsIn_36 : decode cX9_widowsIn 36 = .ok (.iinc 3 1, 3) := by decide +kernel
theorem dX9_widowsIn_39 : decode cX9_widowsIn 39 = .ok (.goto (-35), 3) := by decide +kernel
theorem dX9_widowsIn_42 : decode cX9_widowsIn 42 = .ok (.iload_n 2, 1) := by decide +kernel
theorem dX9_widowsIn_43 : decode cX9_widowsIn 43 = .ok (.ireturn, 1) := by decide +kernel
set_option maxHeartbeats 4000000 in
set_option maxRecDepth 100000 in
theorem f_X9_walkAnew (l : Launch) (G : va_G) (cI cJ cZ cB cQ : ClassId) (sz : Nat) (h0 : Nat) (b : Nat → Nat) (bt : Nat → Nat) (t_lines : Int32) (t_span : Int32) (t_rule : Int32) (t_odds : Int32) (t_wide : Int32) (t_high : Int32) (t_creeks : Int32) (t_houses : Int32) (t_widows : Int32) (t_acts : Int32) (t_f10 : Nat → Int32) (t_f11 : Nat → Int32) (t_f12 : Nat → Int32) (t_f13 : Nat → Int32) (t_f14 : Nat → Int32) (t_f15 : Nat → Int32) (t_f16 : Nat → Int32) (t_f17 : Nat → Int32) (t_f18 : Nat → Int32) (u_rule : Int32) (u_walkers : Int32) (u_creeks : Int64) (u_widow : Int32) (u_faces : Int32) (u_turn : Int32) (bn : Nat → Nat) (n_field : Int64) (n_houses : Int32) (n_f0 : Nat → Int32) (n_f1 : Nat → Int32) (n_f2 : Nat → Int32) (n_f3 : Nat → Int64) (n_f4 : Nat → Int32) (n_f5 : Nat → Int32) (n_f6 : Nat → Int32) (n_f7 : Nat → Int64) (n_f8 : Nat → Int64) (n_f9 : Nat → Int64) (be : Nat → Nat) (e_known : Int32) (hl_t_span : 0 ≤ t_span.toInt) (hh_t_span : t_span.toInt ≤ 12) (hl_t_rule : 0 ≤ t_rule.toInt) (hh_t_rule : t_rule.toInt ≤ 3) (hl_t_odds : 0 ≤ t_odds.toInt) (hh_t_odds : t_odds.toInt ≤ 10) (hl_t_wide : 0 ≤ t_wide.toInt) (hh_t_wide : t_wide.toInt ≤ 8) (hl_t_high : 0 ≤ t_high.toInt) (hh_t_high : t_high.toInt ≤ 8) (hl_t_creeks : 0 ≤ t_creeks.toInt) (hh_t_creeks : t_creeks.toInt ≤ 12) (hl_t_houses : 0 ≤ t_houses.toInt) (hh_t_houses : t_houses.toInt ≤ 6) (hl_t_widows : 0 ≤ t_widows.toInt) (hh_t_widows : t_widows.toInt ≤ 7) (hl_t_acts : 0 ≤ t_acts.toInt) (hh_t_acts : t_acts.toInt ≤ 30) (ha_t_f14 : ai t_f14 7 (-2147483648) 40) (ha_t_f16 : ai t_f16 7 (-2147483648) 8) (hl_n_houses : 0 ≤ n_houses.toInt) (hh_n_houses : n_houses.toInt ≤ 6) (ha_n_f1 : ai n_f1 7 (-1) 40) (hl_e_known : 0 ≤ e_known.toInt) (hh_e_known : e_known.toInt ≤ 1) : CV l yX9_walkAnew (wl_ yX9_walkAnew cX9_walkAnew 1 none) ({ frames := 4, cells := 0, slots := 0, locals := 105 } : Room) G (TY cI cJ cZ cB cQ) [.ref h0] [(h0, oX9 b), (b 1, oX0 bt t_lines t_span t_rule t_odds t_wide t_high t_creeks t_houses t_widows t_acts), (bt 10, .inl (cI, 12, .inl t_f10)), (bt 11, .inl (cI, 6, .inl t_f11)), (bt 12, .inl (cI, 7, .inl t_f12)), (bt 13, .inl (cI, 7, .inl t_f13)), (bt 14, .inl (cI, 7, .inl t_f14)), (bt 15, .inl (cI, 7, .inl t_f15)), (bt 16, .inl (cI, 7, .inl t_f16)), (bt 17, .inl (cI, 56, .inl t_f17)), (bt 18, .inl (cI, 30, .inl t_f18)), (b 3, oX7 z0 u_rule u_walkers u_creeks u_widow u_faces u_turn), (b 4, oX6 bn n_field n_houses), (bn 0, .inl (cI, 287, .inl n_f0)), (bn 1, .inl (cI, 7, .inl n_f1)), (bn 2, .inl (cI, 7, .inl n_f2)), (bn 3, .inl (cJ, 7, .inr (.inl n_f3))), (bn 4, .inl (cI, 7, .inl n_f4)), (bn 5, .inl (cI, 6, .inl n_f5)), (bn 6, .inl (cI, 78, .inl n_f6)), (bn 7, .inl (cJ, 13, .inr (.inl n_f7))), (bn 8, .inl (cJ, 13, .inr (.inl n_f8))), (bn 9, .inl (cJ, 13, .inr (.inl n_f9))), (b 6, oX1 be e_known)] sz (fun (u : Int32 × Int32 × Int64 × Int32 × Int32 × Int32 × Int64 × Int32 × (Nat → Int32) × (Nat → Int32) × (Nat → Int32) × (Nat → Int64) × (Nat → Int32) × (Nat → Int32) × (Nat → Int32) × (Nat → Int64) × (Nat → Int64) × (Nat → Int64) × Int32) => 0 ≤ u.2.2.2.2.2.2.2.1.toInt ∧ u.2.2.2.2.2.2.2.1.toInt ≤ 6 ∧ ai u.2.2.2.2.2.2.2.2.2.1 7 (-1) 40 ∧ 0 ≤ u.2.2.2.2.2.2.2.2.2.2.2.2.2.2.2.2.2.2.toInt ∧ u.2.2.2.2.2.2.2.2.2.2.2.2.2.2.2.2.2.2.toInt ≤ 1) (fun u : Int32 × Int32 × Int64 × Int32 × Int32 × Int32 × Int64 × Int32 × (Nat → Int32) × (Nat → Int32) × (Nat → Int32) × (Nat → Int64) × (Nat → Int32) × (Nat → Int32) × (Nat → Int32) × (Nat → Int64) × (Nat → Int64) × (Nat → Int64) × Int32 => [(h0, oX9 b), (b 1, oX0 bt t_lines t_span t_rule t_odds t_wide t_high t_creeks t_houses t_widows t_acts), (bt 10, .inl (cI, 12, .inl t_f10)), (bt 11, .inl (cI, 6, .inl t_f11)), (bt 12, .inl (cI, 7, .inl t_f12)), (bt 13, .inl (cI, 7, .inl t_f13)), (bt 14, .inl (cI, 7, .inl t_f14)), (bt 15, .inl (cI, 7, .inl t_f15)), (bt 16, .inl (cI, 7, .inl t_f16)), (bt 17, .inl (cI, 56, .inl t_f17)), (bt 18, .inl (cI, 30, .inl t_f18)), (b 3, oX7 z0 u.1 u.2.1 u.2.2.1 u.2.2.2.1 u.2.2.2.2.1 u.2.2.2.2.2.1), (b 4, oX6 bn u.2.2.2.2.2.2.1 u.2.2.2.2.2.2.2.1), (bn 0, .inl (cI, 287, .inl u.2.2.2.2.2.2.2.2.1)), (bn 1, .inl (cI, 7, .inl u.2.2.2.2.2.2.2.2.2.1)), (bn 2, .inl (cI, 7, .inl u.2.2.2.2.2.2.2.2.2.2.1)), (bn 3, .inl (cJ, 7, .inr (.inl u.2.2.2.2.2.2.2.2.2.2.2.1))), (bn 4, .inl (cI, 7, .inl u.2.2.2.2.2.2.2.2.2.2.2.2.1)), (bn 5, .inl (cI, 6, .inl u.2.2.2.2.2.2.2.2.2.2.2.2.2.1)), (bn 6, .inl (cI, 78, .inl u.2.2.2.2.2.2.2.2.2.2.2.2.2.2.1)), (bn 7, .inl (cJ, 13, .inr (.inl u.2.2.2.2.2.2.2.2.2.2.2.2.2.2.2.1))), (bn 8, .inl (cJ, 13, .inr (.inl u.2.2.2.2.2.2.2.2.2.2.2.2.2.2.2.2.1))), (bn 9, .inl (cJ, 13, .inr (.inl u.2.2.2.2.2.2.2.2.2.2.2.2.2.2.2.2.2.1))), (b 6, oX1 be u.2.2.2.2.2.2.2.2.2.2.2.2.2.2.2.2.2.2)]) 0 0 := by
  refine CV.go (cc := cX9_walkAnew) (maxL := 1) (ret := none) (by decide) rfl (Nat.le_of_ble_eq_true rfl) ?_
  intro p e s m below meth c A ls Q hBd hret
  obtain ⟨hx, hb, hr, hml, hts, hown, hlk, hnm, hP, hK, hD, hA, hZ, hl⟩ := hBd
  have hown : s.vm.findClass RX9 = some m.cls := hown
  have hl : lv_has ls 1 [(0, .ref h0)] := hl
  have hS : va_S A s.heap s.heap [] := va_S.rf
  refine lv_aload_n hx hb dX9_walkAnew_0 rfl (lv_at hl 0 rfl) ?_
  refine va_get (D := G) (ci := 9) (v := .ref (b 3)) (C := RX9) (T := TX9) (N := 11) hx hb hts iG_X9 hown hK hP 0 rfl rfl 3 (by decide) (hts _ w_354) (fun _ h9 => h9) rfl dX9_walkAnew_1 ?_
  refine lv_aload_n hx hb dX9_walkAnew_4 rfl (lv_at hl 0 rfl) ?_
  refine va_get (D := G) (ci := 9) (v := .ref (b 1)) (C := RX9) (T := TX9) (N := 11) hx hb hts iG_X9 hown hK hP 0 rfl rfl 1 (by decide) (hts _ w_352) (fun _ h9 => h9) rfl dX9_walkAnew_5 ?_
  refine k_v (wc := [(b 3, oX7 z0 u_rule u_walkers u_creeks u_widow u_faces u_turn), (b 1, oX0 bt t_lines t_span t_rule t_odds t_wide t_high t_creeks t_houses t_widows t_acts), (bt 10, .inl (cI, 12, .inl t_f10)), (bt 18, .inl (cI, 30, .inl t_f18))]) (wr := [(h0, oX9 b), (bt 11, .inl (cI, 6, .inl t_f11)), (bt 12, .inl (cI, 7, .inl t_f12)), (bt 13, .inl (cI, 7, .inl t_f13)), (bt 14, .inl (cI, 7, .inl t_f14)), (bt 15, .inl (cI, 7, .inl t_f15)), (bt 16, .inl (cI, 7, .inl t_f16)), (bt 17, .inl (cI, 56, .inl t_f17)), (b 4, oX6 bn n_field n_houses), (bn 0, .inl (cI, 287, .inl n_f0)), (bn 1, .inl (cI, 7, .inl n_f1)), (bn 2, .inl (cI, 7, .inl n_f2)), (bn 3, .inl (cJ, 7, .inr (.inl n_f3))), (bn 4, .inl (cI, 7, .inl n_f4)), (bn 5, .inl (cI, 6, .inl n_f5)), (bn 6, .inl (cI, 78, .inl n_f6)), (bn 7, .inl (cJ, 13, .inr (.inl n_f7))), (bn 8, .inl (cJ, 13, .inr (.inl n_f8))), (bn 9, .inl (cJ, 13, .inr (.inl n_f9))), (b 6, oX1 be e_known)]) hP hD hS hA [11, 1, 2, 10] [0, 3, 4, 5, 6, 7, 8, 9, 12, 13, 14, 15, 16, 17, 18, 19, 20, 21, 22, 23] rfl rfl rfl (by decide) (va_runVN (As := [.ref (b 1)]) (rest := []) ⟨hx, hb, hml, hown, hts⟩ (f_X7_asNow l G cI cJ cZ cB cQ _ (b 3) (b 1) u_rule u_walkers u_creeks u_widow u_faces u_turn bt t_lines t_span t_rule t_odds t_wide t_high t_creeks t_houses t_widows t_acts t_f10 t_f18 hl_t_span hh_t_span hl_t_rule hh_t_rule hl_t_odds hh_t_odds hl_t_wide hh_t_wide hl_t_high hh_t_high hl_t_creeks hh_t_creeks hl_t_houses hh_t_houses hl_t_widows hh_t_widows hl_t_acts hh_t_acts) ⟨va_cnB (host := "WidowRoads") 1 hts (gW w_576) rfl rfl rfl (nz_nw hZ nw_573 rfl) (hts _ w_5) hd_X7_asNow ⟨Nat.le_of_ble_eq_true rfl, Nat.le_of_ble_eq_true rfl⟩, (hts _ w_575), (hts _ wp_22)⟩ (mV hK hZ hP hD [11, 1, 2, 10] rfl rfl [.ref (b 1)] 11 7 rfl rfl) rfl rfl hl.1 rfl (lv_room (Nat.le_of_ble_eq_true rfl)) dX9_walkAnew_8 ⟨Nat.le_of_ble_eq_true rfl, Nat.le_of_ble_eq_true rfl⟩) (fun u2 H locs hw3 hP hD hS => ?_)
  obtain ⟨o_ruleo4, o_walkerso5, o_creekso6, o_widowo7, o_faceso8, o_turno9⟩ := u2
  try dsimp only at hw3
  have hP : va_P G vwCl [(h0, oX9 b), (bt 11, .inl (cI, 6, .inl t_f11)), (bt 12, .inl (cI, 7, .inl t_f12)), (bt 13, .inl (cI, 7, .inl t_f13)), (bt 14, .inl (cI, 7, .inl t_f14)), (bt 15, .inl (cI, 7, .inl t_f15)), (bt 16, .inl (cI, 7, .inl t_f16)), (bt 17, .inl (cI, 56, .inl t_f17)), (b 4, oX6 bn n_field n_houses), (bn 0, .inl (cI, 287, .inl n_f0)), (bn 1, .inl (cI, 7, .inl n_f1)), (bn 2, .inl (cI, 7, .inl n_f2)), (bn 3, .inl (cJ, 7, .inr (.inl n_f3))), (bn 4, .inl (cI, 7, .inl n_f4)), (bn 5, .inl (cI, 6, .inl n_f5)), (bn 6, .inl (cI, 78, .inl n_f6)), (bn 7, .inl (cJ, 13, .inr (.inl n_f7))), (bn 8, .inl (cJ, 13, .inr (.inl n_f8))), (bn 9, .inl (cJ, 13, .inr (.inl n_f9))), (b 6, oX1 be e_known), (b 3, oX7 z0 o_ruleo4 o_walkerso5 o_creekso6 o_widowo7 o_faceso8 o_turno9), (b 1, oX0 bt t_lines t_span t_rule t_odds t_wide t_high t_creeks t_houses t_widows t_acts), (bt 10, .inl (cI, 12, .inl t_f10)), (bt 18, .inl (cI, 30, .inl t_f18))] H := hP
  have hD : va_D A [(h0, oX9 b), (bt 11, .inl (cI, 6, .inl t_f11)), (bt 12, .inl (cI, 7, .inl t_f12)), (bt 13, .inl (cI, 7, .inl t_f13)), (bt 14, .inl (cI, 7, .inl t_f14)), (bt 15, .inl (cI, 7, .inl t_f15)), (bt 16, .inl (cI, 7, .inl t_f16)), (bt 17, .inl (cI, 56, .inl t_f17)), (b 4, oX6 bn n_field n_houses), (bn 0, .inl (cI, 287, .inl n_f0)), (bn 1, .inl (cI, 7, .inl n_f1)), (bn 2, .inl (cI, 7, .inl n_f2)), (bn 3, .inl (cJ, 7, .inr (.inl n_f3))), (bn 4, .inl (cI, 7, .inl n_f4)), (bn 5, .inl (cI, 6, .inl n_f5)), (bn 6, .inl (cI, 78, .inl n_f6)), (bn 7, .inl (cJ, 13, .inr (.inl n_f7))), (bn 8, .inl (cJ, 13, .inr (.inl n_f8))), (bn 9, .inl (cJ, 13, .inr (.inl n_f9))), (b 6, oX1 be e_known), (b 3, oX7 z0 o_ruleo4 o_walkerso5 o_creekso6 o_widowo7 o_faceso8 o_turno9), (b 1, oX0 bt t_lines t_span t_rule t_odds t_wide t_high t_creeks t_houses t_widows t_acts), (bt 10, .inl (cI, 12, .inl t_f10)), (bt 18, .inl (cI, 30, .inl t_f18))] := hD
  refine lv_aload_n hx hb dX9_walkAnew_11 rfl (lv_at hl 0 rfl) ?_
  refine va_get (D := G) (ci := 9) (v := .ref (b 4)) (C := RX9) (T := TX9) (N := 11) hx hb hts iG_X9 hown hK hP 0 rfl rfl 4 (by decide) (hts _ w_355) (fun _ h9 => h9) rfl dX9_walkAnew_12 ?_
  refine lv_aload_n hx hb dX9_walkAnew_15 rfl (lv_at hl 0 rfl) ?_
  refine va_get (D := G) (ci := 9) (v := .ref (b 1)) (C := RX9) (T := TX9) (N := 11) hx hb hts iG_X9 hown hK hP 0 rfl rfl 1 (by decide) (hts _ w_352) (fun _ h9 => h9) rfl dX9_walkAnew_16 ?_
  refine lv_aload_n hx hb dX9_walkAnew_19 rfl (lv_at hl 0 rfl) ?_
  refine va_get (D := G) (ci := 9) (v := .ref (b 3)) (C := RX9) (T := TX9) (N := 11) hx hb hts iG_X9 hown hK hP 0 rfl rfl 3 (by decide) (hts _ w_354) (fun _ h9 => h9) rfl dX9_walkAnew_20 ?_
  refine k_v (wc := [(b 4, oX6 bn n_field n_houses), (bn 0, .inl (cI, 287, .inl n_f0)), (bn 1, .inl (cI, 7, .inl n_f1)), (bn 2, .inl (cI, 7, .inl n_f2)), (bn 3, .inl (cJ, 7, .inr (.inl n_f3))), (bn 4, .inl (cI, 7, .inl n_f4)), (bn 5, .inl (cI, 6, .inl n_f5)), (bn 6, .inl (cI, 78, .inl n_f6)), (bn 7, .inl (cJ, 13, .inr (.inl n_f7))), (bn 8, .inl (cJ, 13, .inr (.inl n_f8))), (bn 9, .inl (cJ, 13, .inr (.inl n_f9))), (b 1, oX0 bt t_lines t_span t_rule t_odds t_wide t_high t_creeks t_houses t_widows t_acts), (bt 11, .inl (cI, 6, .inl t_f11)), (bt 12, .inl (cI, 7, .inl t_f12)), (bt 13, .inl (cI, 7, .inl t_f13)), (bt 14, .inl (cI, 7, .inl t_f14)), (bt 15, .inl (cI, 7, .inl t_f15)), (bt 16, .inl (cI, 7, .inl t_f16)), (bt 17, .inl (cI, 56, .inl t_f17)), (b 3, oX7 z0 o_ruleo4 o_walkerso5 o_creekso6 o_widowo7 o_faceso8 o_turno9)]) (wr := [(h0, oX9 b), (b 6, oX1 be e_known), (bt 10, .inl (cI, 12, .inl t_f10)), (bt 18, .inl (cI, 30, .inl t_f18))]) hP hD hS hA [8, 9, 10, 11, 12, 13, 14, 15, 16, 17, 18, 21, 1, 2, 3, 4, 5, 6, 7, 20] [0, 19, 22, 23] rfl rfl rfl (by decide) (va_runVN (As := [.ref (b 1), .ref (b 3)]) (rest := []) ⟨hx, hb, hml, hown, hts⟩ (f_X6_tell l G cI cJ cZ cB cQ _ (b 4) (b 1) (b 3) bn n_field n_houses n_f0 n_f1 n_f2 n_f3 n_f4 n_f5 n_f6 n_f7 n_f8 n_f9 bt t_lines t_span t_rule t_odds t_wide t_high t_creeks t_houses t_widows t_acts t_f11 t_f12 t_f13 t_f14 t_f15 t_f16 t_f17 o_ruleo4 o_walkerso5 o_creekso6 o_widowo7 o_faceso8 o_turno9 hl_n_houses hh_n_houses ha_n_f1 hl_t_span hh_t_span hl_t_rule hh_t_rule hl_t_odds hh_t_odds hl_t_wide hh_t_wide hl_t_high hh_t_high hl_t_creeks hh_t_creeks hl_t_houses hh_t_houses hl_t_widows hh_t_widows hl_t_acts hh_t_acts ha_t_f14 ha_t_f16) ⟨va_cnB (host := "WidowRoads") 2 hts (gW w_585) rfl rfl rfl (nz_nw hZ nw_582 rfl) (hts _ w_6) hd_X6_tell ⟨Nat.le_of_ble_eq_true rfl, Nat.le_of_ble_eq_true rfl⟩, (hts _ w_584), (hts _ wp_24)⟩ (mV hK hZ hP hD [8, 9, 10, 11, 12, 13, 14, 15, 16, 17, 18, 21, 1, 2, 3, 4, 5, 6, 7, 20] rfl rfl [.ref (b 1), .ref (b 3)] 8 6 rfl rfl) rfl rfl hl.1 rfl (lv_room (Nat.le_of_ble_eq_true rfl)) dX9_walkAnew_23 ⟨Nat.le_of_ble_eq_true rfl, Nat.le_of_ble_eq_true rfl⟩) (fun u11 H locs hw12 hP hD hS => ?_)
  obtain ⟨o_fieldo13, o_houseso14, o_f0o15, o_f1o16, o_f2o17, o_f3o18, o_f4o19, o_f5o20, o_f6o21, o_f7o22, o_f8o23, o_f9o24⟩ := u11
  try dsimp only at hw12
  have hP : va_P G vwCl [(h0, oX9 b), (b 6, oX1 be e_known), (bt 10, .inl (cI, 12, .inl t_f10)), (bt 18, .inl (cI, 30, .inl t_f18)), (b 4, oX6 bn o_fieldo13 o_houseso14), (bn 0, .inl (cI, 287, .inl o_f0o15)), (bn 1, .inl (cI, 7, .inl o_f1o16)), (bn 2, .inl (cI, 7, .inl o_f2o17)), (bn 3, .inl (cJ, 7, .inr (.inl o_f3o18))), (bn 4, .inl (cI, 7, .inl o_f4o19)), (bn 5, .inl (cI, 6, .inl o_f5o20)), (bn 6, .inl (cI, 78, .inl o_f6o21)), (bn 7, .inl (cJ, 13, .inr (.inl o_f7o22))), (bn 8, .inl (cJ, 13, .inr (.inl o_f8o23))), (bn 9, .inl (cJ, 13, .inr (.inl o_f9o24))), (b 1, oX0 bt t_lines t_span t_rule t_odds t_wide t_high t_creeks t_houses t_widows t_acts), (bt 11, .inl (cI, 6, .inl t_f11)), (bt 12, .inl (cI, 7, .inl t_f12)), (bt 13, .inl (cI, 7, .inl t_f13)), (bt 14, .inl (cI, 7, .inl t_f14)), (bt 15, .inl (cI, 7, .inl t_f15)), (bt 16, .inl (cI, 7, .inl t_f16)), (bt 17, .inl (cI, 56, .inl t_f17)), (b 3, oX7 z0 o_ruleo4 o_walkerso5 o_creekso6 o_widowo7 o_faceso8 o_turno9)] H := hP
  have hD : va_D A [(h0, oX9 b), (b 6, oX1 be e_known), (bt 10, .inl (cI, 12, .inl t_f10)), (bt 18, .inl (cI, 30, .inl t_f18)), (b 4, oX6 bn o_fieldo13 o_houseso14), (bn 0, .inl (cI, 287, .inl o_f0o15)), (bn 1, .inl (cI, 7, .inl o_f1o16)), (bn 2, .inl (cI, 7, .inl o_f2o17)), (bn 3, .inl (cJ, 7, .inr (.inl o_f3o18))), (bn 4, .inl (cI, 7, .inl o_f4o19)), (bn 5, .inl (cI, 6, .inl o_f5o20)), (bn 6, .inl (cI, 78, .inl o_f6o21)), (bn 7, .inl (cJ, 13, .inr (.inl o_f7o22))), (bn 8, .inl (cJ, 13, .inr (.inl o_f8o23))), (bn 9, .inl (cJ, 13, .inr (.inl o_f9o24))), (b 1, oX0 bt t_lines t_span t_rule t_odds t_wide t_high t_creeks t_houses t_widows t_acts), (bt 11, .inl (cI, 6, .inl t_f11)), (bt 12, .inl (cI, 7, .inl t_f12)), (bt 13, .inl (cI, 7, .inl t_f13)), (bt 14, .inl (cI, 7, .inl t_f14)), (bt 15, .inl (cI, 7, .inl t_f15)), (bt 16, .inl (cI, 7, .inl t_f16)), (bt 17, .inl (cI, 56, .inl t_f17)), (b 3, oX7 z0 o_ruleo4 o_walkerso5 o_creekso6 o_widowo7 o_faceso8 o_turno9)] := hD
  obtain ⟨w25, w26, w27⟩ : 0 ≤ o_houseso14.toInt ∧ o_houseso14.toInt ≤ 6 ∧ ai o_f1o16 7 (-1) 40 := hw12
  refine lv_aload_n hx hb dX9_walkAnew_26 rfl (lv_at hl 0 rfl) ?_
  refine va_get (D := G) (ci := 9) (v := .ref (b 6)) (C := RX9) (T := TX9) (N := 11) hx hb hts iG_X9 hown hK hP 0 rfl rfl 6 (by decide) (hts _ w_357) (fun _ h9 => h9) rfl dX9_walkAnew_27 ?_
  refine lv_iconst (v := 0) hx hb dX9_walkAnew_30 (by decide) ?_
  refine va_putN (D := G) (ci := 1) (v := .int 0) (ty := .boolean) (C := RX1) (T := TX1) (N := 3) hx hb hts iG_X1 tyX1 tyX1_ok nmX1 hown hK hP hD hS 1 rfl rfl 2 (by decide) (nz_use hZ nw_292 rfl) (fun _ h9 => h9) rfl (by decide +kernel) rfl rfl (Nat.le_of_ble_eq_true rfl) dX9_walkAnew_31 (fun H locs hP hD hS => ?_)
  have hP : va_P G vwCl [(h0, oX9 b), (b 6, oX1 be 0), (bt 10, .inl (cI, 12, .inl t_f10)), (bt 18, .inl (cI, 30, .inl t_f18)), (b 4, oX6 bn o_fieldo13 o_houseso14), (bn 0, .inl (cI, 287, .inl o_f0o15)), (bn 1, .inl (cI, 7, .inl o_f1o16)), (bn 2, .inl (cI, 7, .inl o_f2o17)), (bn 3, .inl (cJ, 7, .inr (.inl o_f3o18))), (bn 4, .inl (cI, 7, .inl o_f4o19)), (bn 5, .inl (cI, 6, .inl o_f5o20)), (bn 6, .inl (cI, 78, .inl o_f6o21)), (bn 7, .inl (cJ, 13, .inr (.inl o_f7o22))), (bn 8, .inl (cJ, 13, .inr (.inl o_f8o23))), (bn 9, .inl (cJ, 13, .inr (.inl o_f9o24))), (b 1, oX0 bt t_lines t_span t_rule t_odds t_wide t_high t_creeks t_houses t_widows t_acts), (bt 11, .inl (cI, 6, .inl t_f11)), (bt 12, .inl (cI, 7, .inl t_f12)), (bt 13, .inl (cI, 7, .inl t_f13)), (bt 14, .inl (cI, 7, .inl t_f14)), (bt 15, .inl (cI, 7, .inl t_f15)), (bt 16, .inl (cI, 7, .inl t_f16)), (bt 17, .inl (cI, 56, .inl t_f17)), (b 3, oX7 z0 o_ruleo4 o_walkerso5 o_creekso6 o_widowo7 o_faceso8 o_turno9)] H := hP
  have hD : va_D A [(h0, oX9 b), (b 6, oX1 be 0), (bt 10, .inl (cI, 12, .inl t_f10)), (bt 18, .inl (cI, 30, .inl t_f18)), (b 4, oX6 bn o_fieldo13 o_houseso14), (bn 0, .inl (cI, 287, .inl o_f0o15)), (bn 1, .inl (cI, 7, .inl o_f1o16)), (bn 2, .inl (cI, 7, .inl o_f2o17)), (bn 3, .inl (cJ, 7, .inr (.inl o_f3o18))), (bn 4, .inl (cI, 7, .inl o_f4o19)), (bn 5, .inl (cI, 6, .inl o_f5o20)), (bn 6, .inl (cI, 78, .inl o_f6o21)), (bn 7, .inl (cJ, 13, .inr (.inl o_f7o22))), (bn 8, .inl (cJ, 13, .inr (.inl o_f8o23))), (bn 9, .inl (cJ, 13, .inr (.inl o_f9o24))), (b 1, oX0 bt t_lines t_span t_rule t_odds t_wide t_high t_creeks t_houses t_widows t_acts), (bt 11, .inl (cI, 6, .inl t_f11)), (bt 12, .inl (cI, 7, .inl t_f12)), (bt 13, .inl (cI, 7, .inl t_f13)), (bt 14, .inl (cI, 7, .inl t_f14)), (bt 15, .inl (cI, 7, .inl t_f15)), (bt 16, .inl (cI, 7, .inl t_f16)), (bt 17, .inl (cI, 56, .inl t_f17)), (b 3, oX7 z0 o_ruleo4 o_walkerso5 o_creekso6 o_widowo7 o_faceso8 o_turno9)] := hD
  exact hret _ _ _ _ (o_ruleo4, o_walkerso5, o_creekso6, o_widowo7, o_faceso8, o_turno9, o_fieldo13, o_houseso14, o_f0o15, o_f1o16, o_f2o17, o_f3o18, o_f4o19, o_f5o20, o_f6o21, o_f7o22, o_f8o23, o_f9o24, 0) (hP.sub (ws' := [(h0, oX9 b), (b 1, oX0 bt t_lines t_span t_rule t_odds t_wide t_high t_creeks t_houses t_widows t_acts), (bt 10, .inl (cI, 12, .inl t_f10)), (bt 11, .inl (cI, 6, .inl t_f11)), (bt 12, .inl (cI, 7, .inl t_f12)), (bt 13, .inl (cI, 7, .inl t_f13)), (bt 14, .inl (cI, 7, .inl t_f14)), (bt 15, .inl (cI, 7, .inl t_f15)), (bt 16, .inl (cI, 7, .inl t_f16)), (bt 17, .inl (cI, 56, .inl t_f17)), (bt 18, .inl (cI, 30, .inl t_f18)), (b 3, oX7 z0 o_ruleo4 o_walkerso5 o_creekso6 o_widowo7 o_faceso8 o_turno9), (b 4, oX6 bn o_fieldo13 o_houseso14), (bn 0, .inl (cI, 287, .inl o_f0o15)), (bn 1, .inl (cI, 7, .inl o_f1o16)), (bn 2, .inl (cI, 7, .inl o_f2o17)), (bn 3, .inl (cJ, 7, .inr (.inl o_f3o18))), (bn 4, .inl (cI, 7, .inl o_f4o19)), (bn 5, .inl (cI, 6, .inl o_f5o20)), (bn 6, .inl (cI, 78, .inl o_f6o21)), (bn 7, .inl (cJ, 13, .inr (.inl o_f7o22))), (bn 8, .inl (cJ, 13, .inr (.inl o_f8o23))), (bn 9, .inl (cJ, 13, .inr (.inl o_f9o24))), (b 6, oX1 be 0)]) [0, 15, 2, 16, 17, 18, 19, 20, 21, 22, 3, 23, 4, 5, 6, 7, 8, 9, 10, 11, 12, 13, 14, 1] rfl) (hD.sub (ws' := [(h0, oX9 b), (b 1, oX0 bt t_lines t_span t_rule t_odds t_wide t_high t_creeks t_houses t_widows t_acts), (bt 10, .inl (cI, 12, .inl t_f10)), (bt 11, .inl (cI, 6, .inl t_f11)), (bt 12, .inl (cI, 7, .inl t_f12)), (bt 13, .inl (cI, 7, .inl t_f13)), (bt 14, .inl (cI, 7, .inl t_f14)), (bt 15, .inl (cI, 7, .inl t_f15)), (bt 16, .inl (cI, 7, .inl t_f16)), (bt 17, .inl (cI, 56, .inl t_f17)), (bt 18, .inl (cI, 30, .inl t_f18)), (b 3, oX7 z0 o_ruleo4 o_walkerso5 o_creekso6 o_widowo7 o_faceso8 o_turno9), (b 4, oX6 bn o_fieldo13 o_houseso14), (bn 0, .inl (cI, 287, .inl o_f0o15)), (bn 1, .inl (cI, 7, .inl o_f1o16)), (bn 2, .inl (cI, 7, .inl o_f2o17)), (bn 3, .inl (cJ, 7, .inr (.inl o_f3o18))), (bn 4, .inl (cI, 7, .inl o_f4o19)), (bn 5, .inl (cI, 6, .inl o_f5o20)), (bn 6, .inl (cI, 78, .inl o_f6o21)), (bn 7, .inl (cJ, 13, .inr (.inl o_f7o22))), (bn 8, .inl (cJ, 13, .inr (.inl o_f8o23))), (bn 9, .inl (cJ, 13, .inr (.inl o_f9o24))), (b 6, oX1 be 0)]) [0, 15, 2, 16, 17, 18, 19, 20, 21, 22, 3, 23, 4, 5, 6, 7, 8, 9, 10, 11, 12, 13, 14, 1] rfl rfl) hS dX9_walkAnew_34 (show 0 ≤ o_houseso14.toInt ∧ o_houseso14.toInt ≤ 6 ∧ ai o_f1o16 7 (-1) 40 ∧ 0 ≤ (0 : Int32).toInt ∧ (0 : Int32).toInt ≤ 1 from ⟨w25, w26, w27, (by rw [ki_0]; decide), (by rw [ki_0]; decide)⟩)
set_option maxHeartbeats 4000000 in
set_option maxRecDepth 100000 in
theorem f_X9_act (l : Launch) (G : va_G) (cI cJ cZ cB cQ : ClassId) (sz : Nat) (h0 : Nat) (p0 : Int32) (b : Nat → Nat) (bt : Nat → Nat) (t_lines : Int32) (t_span : Int32) (t_rule : Int32) (t_odds : Int32) (t_wide : Int32) (t_high : Int32) (t_creeks : Int32) (t_houses : Int32) (t_widows : Int32) (t_acts : Int32) (t_f10 : Nat → Int32) (t_f11 : Nat → Int32) (t_f12 : Nat → Int32) (t_f13 : Nat → Int32) (t_f14 : Nat → Int32) (t_f15 : Nat → Int32) (t_f16 : Nat → Int32) (t_f17 : Nat → Int32) (t_f18 : Nat → Int32) (u_rule : Int32) (u_walkers : Int32) (u_creeks : Int64) (u_widow : Int32) (u_faces : Int32) (u_turn : Int32) (bn : Nat → Nat) (n_field : Int64) (n_houses : Int32) (n_f0 : Nat → Int32) (n_f1 : Nat → Int32) (n_f2 : Nat → Int32) (n_f3 : Nat → Int64) (n_f4 : Nat → Int32) (n_f5 : Nat → Int32) (n_f6 : Nat → Int32) (n_f7 : Nat → Int64) (n_f8 : Nat → Int64) (n_f9 : Nat → Int64) (be : Nat → Nat) (e_known : Int32) (hl_t_span : 0 ≤ t_span.toInt) (hh_t_span : t_span.toInt ≤ 12) (hl_t_rule : 0 ≤ t_rule.toInt) (hh_t_rule : t_rule.toInt ≤ 3) (hl_t_odds : 0 ≤ t_odds.toInt) (hh_t_odds : t_odds.toInt ≤ 10) (hl_t_wide : 0 ≤ t_wide.toInt) (hh_t_wide : t_wide.toInt ≤ 8) (hl_t_high : 0 ≤ t_high.toInt) (hh_t_high : t_high.toInt ≤ 8) (hl_t_creeks : 0 ≤ t_creeks.toInt) (hh_t_creeks : t_creeks.toInt ≤ 12) (hl_t_houses : 0 ≤ t_houses.toInt) (hh_t_houses : t_houses.toInt ≤ 6) (hl_t_widows : 0 ≤ t_widows.toInt) (hh_t_widows : t_widows.toInt ≤ 7) (hl_t_acts : 0 ≤ t_acts.toInt) (hh_t_acts : t_acts.toInt ≤ 30) (ha_t_f14 : ai t_f14 7 (-2147483648) 40) (ha_t_f16 : ai t_f16 7 (-2147483648) 8) (hl_n_houses : 0 ≤ n_houses.toInt) (hh_n_houses : n_houses.toInt ≤ 6) (ha_n_f1 : ai n_f1 7 (-1) 40) (hl_e_known : 0 ≤ e_known.toInt) (hh_e_known : e_known.toInt ≤ 1) : CI l yX9_act (wl_ yX9_act cX9_act 2 (some .int)) ({ frames := 5, cells := 0, slots := 0, locals := 125 } : Room) G (TY cI cJ cZ cB cQ) [.ref h0, .int p0] [(h0, oX9 b), (b 1, oX0 bt t_lines t_span t_rule t_odds t_wide t_high t_creeks t_houses t_widows t_acts), (bt 10, .inl (cI, 12, .inl t_f10)), (bt 11, .inl (cI, 6, .inl t_f11)), (bt 12, .inl (cI, 7, .inl t_f12)), (bt 13, .inl (cI, 7, .inl t_f13)), (bt 14, .inl (cI, 7, .inl t_f14)), (bt 15, .inl (cI, 7, .inl t_f15)), (bt 16, .inl (cI, 7, .inl t_f16)), (bt 17, .inl (cI, 56, .inl t_f17)), (bt 18, .inl (cI, 30, .inl t_f18)), (b 3, oX7 z0 u_rule u_walkers u_creeks u_widow u_faces u_turn), (b 4, oX6 bn n_field n_houses), (bn 0, .inl (cI, 287, .inl n_f0)), (bn 1, .inl (cI, 7, .inl n_f1)), (bn 2, .inl (cI, 7, .inl n_f2)), (bn 3, .inl (cJ, 7, .inr (.inl n_f3))), (bn 4, .inl (cI, 7, .inl n_f4)), (bn 5, .inl (cI, 6, .inl n_f5)), (bn 6, .inl (cI, 78, .inl n_f6)), (bn 7, .inl (cJ, 13, .inr (.inl n_f7))), (bn 8, .inl (cJ, 13, .inr (.inl n_f8))), (bn 9, .inl (cJ, 13, .inr (.inl n_f9))), (b 6, oX1 be e_known)] sz (fun (r : Int32) (u : Int32 × (Nat → Int32) × Int32 × Int32 × Int64 × Int32 × Int32 × Int32 × Int64 × Int32 × (Nat → Int32) × (Nat → Int32) × (Nat → Int32) × (Nat → Int64) × (Nat → Int32) × (Nat → Int32) × (Nat → Int32) × (Nat → Int64) × (Nat → Int64) × (Nat → Int64) × Int32) => 0 ≤ u.1.toInt ∧ u.1.toInt ≤ 30 ∧ 0 ≤ u.2.2.2.2.2.2.2.2.2.1.toInt ∧ u.2.2.2.2.2.2.2.2.2.1.toInt ≤ 6 ∧ ai u.2.2.2.2.2.2.2.2.2.2.2.1 7 (-1) 40 ∧ 0 ≤ u.2.2.2.2.2.2.2.2.2.2.2.2.2.2.2.2.2.2.2.2.toInt ∧ u.2.2.2.2.2.2.2.2.2.2.2.2.2.2.2.2.2.2.2.2.toInt ≤ 1) (fun u : Int32 × (Nat → Int32) × Int32 × Int32 × Int64 × Int32 × Int32 × Int32 × Int64 × Int32 × (Nat → Int32) × (Nat → Int32) × (Nat → Int32) × (Nat → Int64) × (Nat → Int32) × (Nat → Int32) × (Nat → Int32) × (Nat → Int64) × (Nat → Int64) × (Nat → Int64) × Int32 => [(h0, oX9 b), (b 1, oX0 bt t_lines t_span t_rule t_odds t_wide t_high t_creeks t_houses t_widows u.1), (bt 10, .inl (cI, 12, .inl t_f10)), (bt 11, .inl (cI, 6, .inl t_f11)), (bt 12, .inl (cI, 7, .inl t_f12)), (bt 13, .inl (cI, 7, .inl t_f13)), (bt 14, .inl (cI, 7, .inl t_f14)), (bt 15, .inl (cI, 7, .inl t_f15)), (bt 16, .inl (cI, 7, .inl t_f16)), (bt 17, .inl (cI, 56, .inl t_f17)), (bt 18, .inl (cI, 30, .inl u.2.1)), (b 3, oX7 z0 u.2.2.1 u.2.2.2.1 u.2.2.2.2.1 u.2.2.2.2.2.1 u.2.2.2.2.2.2.1 u.2.2.2.2.2.2.2.1), (b 4, oX6 bn u.2.2.2.2.2.2.2.2.1 u.2.2.2.2.2.2.2.2.2.1), (bn 0, .inl (cI, 287, .inl u.2.2.2.2.2.2.2.2.2.2.1)), (bn 1, .inl (cI, 7, .inl u.2.2.2.2.2.2.2.2.2.2.2.1)), (bn 2, .inl (cI, 7, .inl u.2.2.2.2.2.2.2.2.2.2.2.2.1)), (bn 3, .inl (cJ, 7, .inr (.inl u.2.2.2.2.2.2.2.2.2.2.2.2.2.1))), (bn 4, .inl (cI, 7, .inl u.2.2.2.2.2.2.2.2.2.2.2.2.2.2.1)), (bn 5, .inl (cI, 6, .inl u.2.2.2.2.2.2.2.2.2.2.2.2.2.2.2.1)), (bn 6, .inl (cI, 78, .inl u.2.2.2.2.2.2.2.2.2.2.2.2.2.2.2.2.1)), (bn 7, .inl (cJ, 13, .inr (.inl u.2.2.2.2.2.2.2.2.2.2.2.2.2.2.2.2.2.1))), (bn 8, .inl (cJ, 13, .inr (.inl u.2.2.2.2.2.2.2.2.2.2.2.2.2.2.2.2.2.2.1))), (bn 9, .inl (cJ, 13, .inr (.inl u.2.2.2.2.2.2.2.2.2.2.2.2.2.2.2.2.2.2.2.1))), (b 6, oX1 be u.2.2.2.2.2.2.2.2.2.2.2.2.2.2.2.2.2.2.2.2)]) 0 0 := by
  refine CI.go (cc := cX9_act) (maxL := 2) (ret := (some .int)) (by decide) rfl (Nat.le_of_ble_eq_true rfl) ?_
  intro p e s m below meth c A ls Q hBd hret
  obtain ⟨hx, hb, hr, hml, hts, hown, hlk, hnm, hP, hK, hD, hA, hZ, hl⟩ := hBd
  have hown : s.vm.findClass RX9 = some m.cls := hown
  have hl : lv_has ls 2 [(0, .ref h0), (1, .int p0)] := hl
  have hS : va_S A s.heap s.heap [] := va_S.rf
  refine lv_aload_n hx hb dX9_act_0 rfl (lv_at hl 0 rfl) ?_
  refine va_get (D := G) (ci := 9) (v := .ref (b 1)) (C := RX9) (T := TX9) (N := 11) hx hb hts iG_X9 hown hK hP 0 rfl rfl 1 (by decide) (hts _ w_352) (fun _ h9 => h9) rfl dX9_act_1 ?_
  refine va_getN (D := G) (ci := 0) (v := .int t_acts) (C := RX0) (T := TX0) (N := 19) hx hb hts iG_X0 hown hK hP 1 rfl rfl 9 (by decide) (nz_use hZ nw_90 rfl) (fun _ h9 => h9) rfl dX9_act_4 ?_
  refine lv_bipush (v := 30) hx hb dX9_act_7 (by decide) ?_
  refine lv_icmp_lt (tgt := 15) hx hb dX9_act_9 (by decide) (fun c1 => ?_) (fun c1 => ?_)
  · have c1 := i_lt rfl ki_30 c1
    refine lv_aload_n hx hb dX9_act_15 rfl (lv_at hl 0 rfl) ?_
    refine va_get (D := G) (ci := 9) (v := .ref (b 1)) (C := RX9) (T := TX9) (N := 11) hx hb hts iG_X9 hown hK hP 0 rfl rfl 1 (by decide) (hts _ w_352) (fun _ h9 => h9) rfl dX9_act_16 ?_
    refine va_getN (D := G) (ci := 0) (v := .ref (bt 18)) (C := RX0) (T := TX0) (N := 19) hx hb hts iG_X0 hown hK hP 1 rfl rfl 18 (by decide) (nz_use hZ nw_122 rfl) (fun _ h9 => h9) rfl dX9_act_19 ?_
    refine lv_aload_n hx hb dX9_act_22 rfl (lv_at hl 0 rfl) ?_
    refine va_get (D := G) (ci := 9) (v := .ref (b 1)) (C := RX9) (T := TX9) (N := 11) hx hb hts iG_X9 hown hK hP 0 rfl rfl 1 (by decide) (hts _ w_352) (fun _ h9 => h9) rfl dX9_act_23 ?_
    refine va_getN (D := G) (ci := 0) (v := .int t_acts) (C := RX0) (T := TX0) (N := 19) hx hb hts iG_X0 hown hK hP 1 rfl rfl 9 (by decide) (nz_use hZ nw_90 rfl) (fun _ h9 => h9) rfl dX9_act_26 ?_
    refine lv_iload_n hx hb dX9_act_29 rfl (lv_at hl 1 rfl) ?_
    refine va_iast hx hb hK hP hD hS 10 0 rfl rfl (ix_in rfl (by omega) (by omega)) dX9_act_30 (fun H locs hP hD hS => ?_)
    obtain ⟨f2, qf2⟩ : ∃ g, g = upd t_f18 t_acts.toNatClampNeg p0 := ⟨_, rfl⟩
    rw [← qf2] at hP hD
    have hP : va_P G vwCl [(h0, oX9 b), (b 1, oX0 bt t_lines t_span t_rule t_odds t_wide t_high t_creeks t_houses t_widows t_acts), (bt 10, .inl (cI, 12, .inl t_f10)), (bt 11, .inl (cI, 6, .inl t_f11)), (bt 12, .inl (cI, 7, .inl t_f12)), (bt 13, .inl (cI, 7, .inl t_f13)), (bt 14, .inl (cI, 7, .inl t_f14)), (bt 15, .inl (cI, 7, .inl t_f15)), (bt 16, .inl (cI, 7, .inl t_f16)), (bt 17, .inl (cI, 56, .inl t_f17)), (bt 18, .inl (cI, 30, .inl f2)), (b 3, oX7 z0 u_rule u_walkers u_creeks u_widow u_faces u_turn), (b 4, oX6 bn n_field n_houses), (bn 0, .inl (cI, 287, .inl n_f0)), (bn 1, .inl (cI, 7, .inl n_f1)), (bn 2, .inl (cI, 7, .inl n_f2)), (bn 3, .inl (cJ, 7, .inr (.inl n_f3))), (bn 4, .inl (cI, 7, .inl n_f4)), (bn 5, .inl (cI, 6, .inl n_f5)), (bn 6, .inl (cI, 78, .inl n_f6)), (bn 7, .inl (cJ, 13, .inr (.inl n_f7))), (bn 8, .inl (cJ, 13, .inr (.inl n_f8))), (bn 9, .inl (cJ, 13, .inr (.inl n_f9))), (b 6, oX1 be e_known)] H := hP
    have hD : va_D A [(h0, oX9 b), (b 1, oX0 bt t_lines t_span t_rule t_odds t_wide t_high t_creeks t_houses t_widows t_acts), (bt 10, .inl (cI, 12, .inl t_f10)), (bt 11, .inl (cI, 6, .inl t_f11)), (bt 12, .inl (cI, 7, .inl t_f12)), (bt 13, .inl (cI, 7, .inl t_f13)), (bt 14, .inl (cI, 7, .inl t_f14)), (bt 15, .inl (cI, 7, .inl t_f15)), (bt 16, .inl (cI, 7, .inl t_f16)), (bt 17, .inl (cI, 56, .inl t_f17)), (bt 18, .inl (cI, 30, .inl f2)), (b 3, oX7 z0 u_rule u_walkers u_creeks u_widow u_faces u_turn), (b 4, oX6 bn n_field n_houses), (bn 0, .inl (cI, 287, .inl n_f0)), (bn 1, .inl (cI, 7, .inl n_f1)), (bn 2, .inl (cI, 7, .inl n_f2)), (bn 3, .inl (cJ, 7, .inr (.inl n_f3))), (bn 4, .inl (cI, 7, .inl n_f4)), (bn 5, .inl (cI, 6, .inl n_f5)), (bn 6, .inl (cI, 78, .inl n_f6)), (bn 7, .inl (cJ, 13, .inr (.inl n_f7))), (bn 8, .inl (cJ, 13, .inr (.inl n_f8))), (bn 9, .inl (cJ, 13, .inr (.inl n_f9))), (b 6, oX1 be e_known)] := hD
    refine lv_aload_n hx hb dX9_act_31 rfl (lv_at hl 0 rfl) ?_
    refine va_get (D := G) (ci := 9) (v := .ref (b 1)) (C := RX9) (T := TX9) (N := 11) hx hb hts iG_X9 hown hK hP 0 rfl rfl 1 (by decide) (hts _ w_352) (fun _ h9 => h9) rfl dX9_act_32 ?_
    refine lv_dup hx hb dX9_act_35 rfl ?_
    refine va_getN (D := G) (ci := 0) (v := .int t_acts) (C := RX0) (T := TX0) (N := 19) hx hb hts iG_X0 hown hK hP 1 rfl rfl 9 (by decide) (nz_use hZ nw_90 rfl) (fun _ h9 => h9) rfl dX9_act_36 ?_
    refine lv_iconst (v := 1) hx hb dX9_act_39 (by decide) ?_
    refine lv_iadd hx hb dX9_act_40 ?_
    refine lv_topi (fun v3 ev3 => ?_)
    have tv3 : v3.toInt = t_acts.toInt + 1 := ti_add rfl ki_1 ev3 (by omega) (by omega)
    refine va_putN (D := G) (ci := 0) (v := .int v3) (ty := .int) (C := RX0) (T := TX0) (N := 19) hx hb hts iG_X0 tyX0 tyX0_ok nmX0 hown hK hP hD hS 1 rfl rfl 9 (by decide) (nz_use hZ nw_90 rfl) (fun _ h9 => h9) rfl (by decide +kernel) rfl rfl (Nat.le_of_ble_eq_true rfl) dX9_act_41 (fun H locs hP hD hS => ?_)
    have hP : va_P G vwCl [(h0, oX9 b), (b 1, oX0 bt t_lines t_span t_rule t_odds t_wide t_high t_creeks t_houses t_widows v3), (bt 10, .inl (cI, 12, .inl t_f10)), (bt 11, .inl (cI, 6, .inl t_f11)), (bt 12, .inl (cI, 7, .inl t_f12)), (bt 13, .inl (cI, 7, .inl t_f13)), (bt 14, .inl (cI, 7, .inl t_f14)), (bt 15, .inl (cI, 7, .inl t_f15)), (bt 16, .inl (cI, 7, .inl t_f16)), (bt 17, .inl (cI, 56, .inl t_f17)), (bt 18, .inl (cI, 30, .inl f2)), (b 3, oX7 z0 u_rule u_walkers u_creeks u_widow u_faces u_turn), (b 4, oX6 bn n_field n_houses), (bn 0, .inl (cI, 287, .inl n_f0)), (bn 1, .inl (cI, 7, .inl n_f1)), (bn 2, .inl (cI, 7, .inl n_f2)), (bn 3, .inl (cJ, 7, .inr (.inl n_f3))), (bn 4, .inl (cI, 7, .inl n_f4)), (bn 5, .inl (cI, 6, .inl n_f5)), (bn 6, .inl (cI, 78, .inl n_f6)), (bn 7, .inl (cJ, 13, .inr (.inl n_f7))), (bn 8, .inl (cJ, 13, .inr (.inl n_f8))), (bn 9, .inl (cJ, 13, .inr (.inl n_f9))), (b 6, oX1 be e_known)] H := hP
    have hD : va_D A [(h0, oX9 b), (b 1, oX0 bt t_lines t_span t_rule t_odds t_wide t_high t_creeks t_houses t_widows v3), (bt 10, .inl (cI, 12, .inl t_f10)), (bt 11, .inl (cI, 6, .inl t_f11)), (bt 12, .inl (cI, 7, .inl t_f12)), (bt 13, .inl (cI, 7, .inl t_f13)), (bt 14, .inl (cI, 7, .inl t_f14)), (bt 15, .inl (cI, 7, .inl t_f15)), (bt 16, .inl (cI, 7, .inl t_f16)), (bt 17, .inl (cI, 56, .inl t_f17)), (bt 18, .inl (cI, 30, .inl f2)), (b 3, oX7 z0 u_rule u_walkers u_creeks u_widow u_faces u_turn), (b 4, oX6 bn n_field n_houses), (bn 0, .inl (cI, 287, .inl n_f0)), (bn 1, .inl (cI, 7, .inl n_f1)), (bn 2, .inl (cI, 7, .inl n_f2)), (bn 3, .inl (cJ, 7, .inr (.inl n_f3))), (bn 4, .inl (cI, 7, .inl n_f4)), (bn 5, .inl (cI, 6, .inl n_f5)), (bn 6, .inl (cI, 78, .inl n_f6)), (bn 7, .inl (cJ, 13, .inr (.inl n_f7))), (bn 8, .inl (cJ, 13, .inr (.inl n_f8))), (bn 9, .inl (cJ, 13, .inr (.inl n_f9))), (b 6, oX1 be e_known)] := hD
    refine lv_aload_n hx hb dX9_act_44 rfl (lv_at hl 0 rfl) ?_
    refine k_v (wc := [(h0, oX9 b), (b 1, oX0 bt t_lines t_span t_rule t_odds t_wide t_high t_creeks t_houses t_widows v3), (bt 10, .inl (cI, 12, .inl t_f10)), (bt 11, .inl (cI, 6, .inl t_f11)), (bt 12, .inl (cI, 7, .inl t_f12)), (bt 13, .inl (cI, 7, .inl t_f13)), (bt 14, .inl (cI, 7, .inl t_f14)), (bt 15, .inl (cI, 7, .inl t_f15)), (bt 16, .inl (cI, 7, .inl t_f16)), (bt 17, .inl (cI, 56, .inl t_f17)), (bt 18, .inl (cI, 30, .inl f2)), (b 3, oX7 z0 u_rule u_walkers u_creeks u_widow u_faces u_turn), (b 4, oX6 bn n_field n_houses), (bn 0, .inl (cI, 287, .inl n_f0)), (bn 1, .inl (cI, 7, .inl n_f1)), (bn 2, .inl (cI, 7, .inl n_f2)), (bn 3, .inl (cJ, 7, .inr (.inl n_f3))), (bn 4, .inl (cI, 7, .inl n_f4)), (bn 5, .inl (cI, 6, .inl n_f5)), (bn 6, .inl (cI, 78, .inl n_f6)), (bn 7, .inl (cJ, 13, .inr (.inl n_f7))), (bn 8, .inl (cJ, 13, .inr (.inl n_f8))), (bn 9, .inl (cJ, 13, .inr (.inl n_f9))), (b 6, oX1 be e_known)]) (wr := []) hP hD hS hA [0, 1, 2, 3, 4, 5, 6, 7, 8, 9, 10, 11, 12, 13, 14, 15, 16, 17, 18, 19, 20, 21, 22, 23] [] rfl rfl rfl (by decide) (va_runV (As := []) (rest := []) ⟨hx, hb, hml, hown, hts⟩ (f_X9_walkAnew l G cI cJ cZ cB cQ _ h0 b bt t_lines t_span t_rule t_odds t_wide t_high t_creeks t_houses t_widows v3 t_f10 t_f11 t_f12 t_f13 t_f14 t_f15 t_f16 t_f17 f2 u_rule u_walkers u_creeks u_widow u_faces u_turn bn n_field n_houses n_f0 n_f1 n_f2 n_f3 n_f4 n_f5 n_f6 n_f7 n_f8 n_f9 be e_known hl_t_span hh_t_span hl_t_rule hh_t_rule hl_t_odds hh_t_odds hl_t_wide hh_t_wide hl_t_high hh_t_high hl_t_creeks hh_t_creeks hl_t_houses hh_t_houses hl_t_widows hh_t_widows (by omega) (by omega) ha_t_f14 ha_t_f16 hl_n_houses hh_n_houses ha_n_f1 hl_e_known hh_e_known) (cwV 0 hts (gV w_569 w_571 wp_21 w_1 w_572) rfl rfl rfl ⟨rfl, hd_X9_walkAnew⟩ ⟨Nat.le_of_ble_eq_true rfl, Nat.le_of_ble_eq_true rfl⟩) (mV hK hZ hP hD [0, 1, 2, 3, 4, 5, 6, 7, 8, 9, 10, 11, 12, 13, 14, 15, 16, 17, 18, 19, 20, 21, 22, 23] rfl rfl [] 0 9 rfl rfl) rfl rfl hl.1 rfl (lv_room (Nat.le_of_ble_eq_true rfl)) dX9_act_45 ⟨Nat.le_of_ble_eq_true rfl, Nat.le_of_ble_eq_true rfl⟩) (fun u5 H locs hw6 hP hD hS => ?_)
    obtain ⟨u_ruleo7, u_walkerso8, u_creekso9, u_widowo10, u_faceso11, u_turno12, n_fieldo13, n_houseso14, n_f0o15, n_f1o16, n_f2o17, n_f3o18, n_f4o19, n_f5o20, n_f6o21, n_f7o22, n_f8o23, n_f9o24, e_knowno25⟩ := u5
    try dsimp only at hw6
    have hP : va_P G vwCl [(h0, oX9 b), (b 1, oX0 bt t_lines t_span t_rule t_odds t_wide t_high t_creeks t_houses t_widows v3), (bt 10, .inl (cI, 12, .inl t_f10)), (bt 11, .inl (cI, 6, .inl t_f11)), (bt 12, .inl (cI, 7, .inl t_f12)), (bt 13, .inl (cI, 7, .inl t_f13)), (bt 14, .inl (cI, 7, .inl t_f14)), (bt 15, .inl (cI, 7, .inl t_f15)), (bt 16, .inl (cI, 7, .inl t_f16)), (bt 17, .inl (cI, 56, .inl t_f17)), (bt 18, .inl (cI, 30, .inl f2)), (b 3, oX7 z0 u_ruleo7 u_walkerso8 u_creekso9 u_widowo10 u_faceso11 u_turno12), (b 4, oX6 bn n_fieldo13 n_houseso14), (bn 0, .inl (cI, 287, .inl n_f0o15)), (bn 1, .inl (cI, 7, .inl n_f1o16)), (bn 2, .inl (cI, 7, .inl n_f2o17)), (bn 3, .inl (cJ, 7, .inr (.inl n_f3o18))), (bn 4, .inl (cI, 7, .inl n_f4o19)), (bn 5, .inl (cI, 6, .inl n_f5o20)), (bn 6, .inl (cI, 78, .inl n_f6o21)), (bn 7, .inl (cJ, 13, .inr (.inl n_f7o22))), (bn 8, .inl (cJ, 13, .inr (.inl n_f8o23))), (bn 9, .inl (cJ, 13, .inr (.inl n_f9o24))), (b 6, oX1 be e_knowno25)] H := hP
    have hD : va_D A [(h0, oX9 b), (b 1, oX0 bt t_lines t_span t_rule t_odds t_wide t_high t_creeks t_houses t_widows v3), (bt 10, .inl (cI, 12, .inl t_f10)), (bt 11, .inl (cI, 6, .inl t_f11)), (bt 12, .inl (cI, 7, .inl t_f12)), (bt 13, .inl (cI, 7, .inl t_f13)), (bt 14, .inl (cI, 7, .inl t_f14)), (bt 15, .inl (cI, 7, .inl t_f15)), (bt 16, .inl (cI, 7, .inl t_f16)), (bt 17, .inl (cI, 56, .inl t_f17)), (bt 18, .inl (cI, 30, .inl f2)), (b 3, oX7 z0 u_ruleo7 u_walkerso8 u_creekso9 u_widowo10 u_faceso11 u_turno12), (b 4, oX6 bn n_fieldo13 n_houseso14), (bn 0, .inl (cI, 287, .inl n_f0o15)), (bn 1, .inl (cI, 7, .inl n_f1o16)), (bn 2, .inl (cI, 7, .inl n_f2o17)), (bn 3, .inl (cJ, 7, .inr (.inl n_f3o18))), (bn 4, .inl (cI, 7, .inl n_f4o19)), (bn 5, .inl (cI, 6, .inl n_f5o20)), (bn 6, .inl (cI, 78, .inl n_f6o21)), (bn 7, .inl (cJ, 13, .inr (.inl n_f7o22))), (bn 8, .inl (cJ, 13, .inr (.inl n_f8o23))), (bn 9, .inl (cJ, 13, .inr (.inl n_f9o24))), (b 6, oX1 be e_knowno25)] := hD
    obtain ⟨w26, w27, w28, w29, w30⟩ : 0 ≤ n_houseso14.toInt ∧ n_houseso14.toInt ≤ 6 ∧ ai n_f1o16 7 (-1) 40 ∧ 0 ≤ e_knowno25.toInt ∧ e_knowno25.toInt ≤ 1 := hw6
    refine lv_aload_n hx hb dX9_act_48 rfl (lv_at hl 0 rfl) ?_
    refine va_get (D := G) (ci := 9) (v := .ref (b 4)) (C := RX9) (T := TX9) (N := 11) hx hb hts iG_X9 hown hK hP 0 rfl rfl 4 (by decide) (hts _ w_355) (fun _ h9 => h9) rfl dX9_act_49 ?_
    refine lv_aload_n hx hb dX9_act_52 rfl (lv_at hl 0 rfl) ?_
    refine va_get (D := G) (ci := 9) (v := .ref (b 1)) (C := RX9) (T := TX9) (N := 11) hx hb hts iG_X9 hown hK hP 0 rfl rfl 1 (by decide) (hts _ w_352) (fun _ h9 => h9) rfl dX9_act_53 ?_
    refine va_getN (D := G) (ci := 0) (v := .int t_span) (C := RX0) (T := TX0) (N := 19) hx hb hts iG_X0 hown hK hP 1 rfl rfl 1 (by decide) (nz_use hZ nw_62 rfl) (fun _ h9 => h9) rfl dX9_act_56 ?_
    refine k_i (wc := [(b 4, oX6 bn n_fieldo13 n_houseso14), (bn 8, .inl (cJ, 13, .inr (.inl n_f8o23))), (bn 9, .inl (cJ, 13, .inr (.inl n_f9o24)))]) (wr := [(h0, oX9 b), (b 1, oX0 bt t_lines t_span t_rule t_odds t_wide t_high t_creeks t_houses t_widows v3), (bt 10, .inl (cI, 12, .inl t_f10)), (bt 11, .inl (cI, 6, .inl t_f11)), (bt 12, .inl (cI, 7, .inl t_f12)), (bt 13, .inl (cI, 7, .inl t_f13)), (bt 14, .inl (cI, 7, .inl t_f14)), (bt 15, .inl (cI, 7, .inl t_f15)), (bt 16, .inl (cI, 7, .inl t_f16)), (bt 17, .inl (cI, 56, .inl t_f17)), (bt 18, .inl (cI, 30, .inl f2)), (b 3, oX7 z0 u_ruleo7 u_walkerso8 u_creekso9 u_widowo10 u_faceso11 u_turno12), (bn 0, .inl (cI, 287, .inl n_f0o15)), (bn 1, .inl (cI, 7, .inl n_f1o16)), (bn 2, .inl (cI, 7, .inl n_f2o17)), (bn 3, .inl (cJ, 7, .inr (.inl n_f3o18))), (bn 4, .inl (cI, 7, .inl n_f4o19)), (bn 5, .inl (cI, 6, .inl n_f5o20)), (bn 6, .inl (cI, 78, .inl n_f6o21)), (bn 7, .inl (cJ, 13, .inr (.inl n_f7o22))), (b 6, oX1 be e_knowno25)]) hP hD hS hA [12, 21, 22] [0, 1, 2, 3, 4, 5, 6, 7, 8, 9, 10, 11, 13, 14, 15, 16, 17, 18, 19, 20, 23] rfl rfl rfl (by decide) (va_runVN (As := [.int t_span]) (rest := []) ⟨hx, hb, hml, hown, hts⟩ (f_X6_pegsIn l G cI cJ cZ cB cQ _ (b 4) t_span bn n_fieldo13 n_houseso14 n_f8o23 n_f9o24 hl_t_span hh_t_span w26 w27) ⟨va_cnB (host := "WidowRoads") 1 hts (gW w_772) rfl rfl rfl (nz_nw hZ nw_769 rfl) (hts _ w_6) hd_X6_pegsIn ⟨Nat.le_of_ble_eq_true rfl, Nat.le_of_ble_eq_true rfl⟩, (hts _ w_771), (hts _ wp_44)⟩ (mV hK hZ hP hD [12, 21, 22] rfl rfl [.int t_span] 12 6 rfl rfl) rfl rfl hl.1 rfl (lv_room (Nat.le_of_ble_eq_true rfl)) dX9_act_59 ⟨Nat.le_of_ble_eq_true rfl, Nat.le_of_ble_eq_true rfl⟩) (fun r31 u32 H locs hw33 hP hD hS => ?_)
    try dsimp only at hw33
    have hP : va_P G vwCl [(h0, oX9 b), (b 1, oX0 bt t_lines t_span t_rule t_odds t_wide t_high t_creeks t_houses t_widows v3), (bt 10, .inl (cI, 12, .inl t_f10)), (bt 11, .inl (cI, 6, .inl t_f11)), (bt 12, .inl (cI, 7, .inl t_f12)), (bt 13, .inl (cI, 7, .inl t_f13)), (bt 14, .inl (cI, 7, .inl t_f14)), (bt 15, .inl (cI, 7, .inl t_f15)), (bt 16, .inl (cI, 7, .inl t_f16)), (bt 17, .inl (cI, 56, .inl t_f17)), (bt 18, .inl (cI, 30, .inl f2)), (b 3, oX7 z0 u_ruleo7 u_walkerso8 u_creekso9 u_widowo10 u_faceso11 u_turno12), (bn 0, .inl (cI, 287, .inl n_f0o15)), (bn 1, .inl (cI, 7, .inl n_f1o16)), (bn 2, .inl (cI, 7, .inl n_f2o17)), (bn 3, .inl (cJ, 7, .inr (.inl n_f3o18))), (bn 4, .inl (cI, 7, .inl n_f4o19)), (bn 5, .inl (cI, 6, .inl n_f5o20)), (bn 6, .inl (cI, 78, .inl n_f6o21)), (bn 7, .inl (cJ, 13, .inr (.inl n_f7o22))), (b 6, oX1 be e_knowno25), (b 4, oX6 bn n_fieldo13 n_houseso14), (bn 8, .inl (cJ, 13, .inr (.inl n_f8o23))), (bn 9, .inl (cJ, 13, .inr (.inl n_f9o24)))] H := hP
    have hD : va_D A [(h0, oX9 b), (b 1, oX0 bt t_lines t_span t_rule t_odds t_wide t_high t_creeks t_houses t_widows v3), (bt 10, .inl (cI, 12, .inl t_f10)), (bt 11, .inl (cI, 6, .inl t_f11)), (bt 12, .inl (cI, 7, .inl t_f12)), (bt 13, .inl (cI, 7, .inl t_f13)), (bt 14, .inl (cI, 7, .inl t_f14)), (bt 15, .inl (cI, 7, .inl t_f15)), (bt 16, .inl (cI, 7, .inl t_f16)), (bt 17, .inl (cI, 56, .inl t_f17)), (bt 18, .inl (cI, 30, .inl f2)), (b 3, oX7 z0 u_ruleo7 u_walkerso8 u_creekso9 u_widowo10 u_faceso11 u_turno12), (bn 0, .inl (cI, 287, .inl n_f0o15)), (bn 1, .inl (cI, 7, .inl n_f1o16)), (bn 2, .inl (cI, 7, .inl n_f2o17)), (bn 3, .inl (cJ, 7, .inr (.inl n_f3o18))), (bn 4, .inl (cI, 7, .inl n_f4o19)), (bn 5, .inl (cI, 6, .inl n_f5o20)), (bn 6, .inl (cI, 78, .inl n_f6o21)), (bn 7, .inl (cJ, 13, .inr (.inl n_f7o22))), (b 6, oX1 be e_knowno25), (b 4, oX6 bn n_fieldo13 n_houseso14), (bn 8, .inl (cJ, 13, .inr (.inl n_f8o23))), (bn 9, .inl (cJ, 13, .inr (.inl n_f9o24)))] := hD
    exact hret _ _ _ _ r31 (v3, f2, u_ruleo7, u_walkerso8, u_creekso9, u_widowo10, u_faceso11, u_turno12, n_fieldo13, n_houseso14, n_f0o15, n_f1o16, n_f2o17, n_f3o18, n_f4o19, n_f5o20, n_f6o21, n_f7o22, n_f8o23, n_f9o24, e_knowno25) (hP.sub (ws' := [(h0, oX9 b), (b 1, oX0 bt t_lines t_span t_rule t_odds t_wide t_high t_creeks t_houses t_widows v3), (bt 10, .inl (cI, 12, .inl t_f10)), (bt 11, .inl (cI, 6, .inl t_f11)), (bt 12, .inl (cI, 7, .inl t_f12)), (bt 13, .inl (cI, 7, .inl t_f13)), (bt 14, .inl (cI, 7, .inl t_f14)), (bt 15, .inl (cI, 7, .inl t_f15)), (bt 16, .inl (cI, 7, .inl t_f16)), (bt 17, .inl (cI, 56, .inl t_f17)), (bt 18, .inl (cI, 30, .inl f2)), (b 3, oX7 z0 u_ruleo7 u_walkerso8 u_creekso9 u_widowo10 u_faceso11 u_turno12), (b 4, oX6 bn n_fieldo13 n_houseso14), (bn 0, .inl (cI, 287, .inl n_f0o15)), (bn 1, .inl (cI, 7, .inl n_f1o16)), (bn 2, .inl (cI, 7, .inl n_f2o17)), (bn 3, .inl (cJ, 7, .inr (.inl n_f3o18))), (bn 4, .inl (cI, 7, .inl n_f4o19)), (bn 5, .inl (cI, 6, .inl n_f5o20)), (bn 6, .inl (cI, 78, .inl n_f6o21)), (bn 7, .inl (cJ, 13, .inr (.inl n_f7o22))), (bn 8, .inl (cJ, 13, .inr (.inl n_f8o23))), (bn 9, .inl (cJ, 13, .inr (.inl n_f9o24))), (b 6, oX1 be e_knowno25)]) [0, 1, 2, 3, 4, 5, 6, 7, 8, 9, 10, 11, 21, 12, 13, 14, 15, 16, 17, 18, 19, 22, 23, 20] rfl) (hD.sub (ws' := [(h0, oX9 b), (b 1, oX0 bt t_lines t_span t_rule t_odds t_wide t_high t_creeks t_houses t_widows v3), (bt 10, .inl (cI, 12, .inl t_f10)), (bt 11, .inl (cI, 6, .inl t_f11)), (bt 12, .inl (cI, 7, .inl t_f12)), (bt 13, .inl (cI, 7, .inl t_f13)), (bt 14, .inl (cI, 7, .inl t_f14)), (bt 15, .inl (cI, 7, .inl t_f15)), (bt 16, .inl (cI, 7, .inl t_f16)), (bt 17, .inl (cI, 56, .inl t_f17)), (bt 18, .inl (cI, 30, .inl f2)), (b 3, oX7 z0 u_ruleo7 u_walkerso8 u_creekso9 u_widowo10 u_faceso11 u_turno12), (b 4, oX6 bn n_fieldo13 n_houseso14), (bn 0, .inl (cI, 287, .inl n_f0o15)), (bn 1, .inl (cI, 7, .inl n_f1o16)), (bn 2, .inl (cI, 7, .inl n_f2o17)), (bn 3, .inl (cJ, 7, .inr (.inl n_f3o18))), (bn 4, .inl (cI, 7, .inl n_f4o19)), (bn 5, .inl (cI, 6, .inl n_f5o20)), (bn 6, .inl (cI, 78, .inl n_f6o21)), (bn 7, .inl (cJ, 13, .inr (.inl n_f7o22))), (bn 8, .inl (cJ, 13, .inr (.inl n_f8o23))), (bn 9, .inl (cJ, 13, .inr (.inl n_f9o24))), (b 6, oX1 be e_knowno25)]) [0, 1, 2, 3, 4, 5, 6, 7, 8, 9, 10, 11, 21, 12, 13, 14, 15, 16, 17, 18, 19, 22, 23, 20] rfl rfl) hS dX9_act_62 (show 0 ≤ v3.toInt ∧ v3.toInt ≤ 30 ∧ 0 ≤ n_houseso14.toInt ∧ n_houseso14.toInt ≤ 6 ∧ ai n_f1o16 7 (-1) 40 ∧ 0 ≤ e_knowno25.toInt ∧ e_knowno25.toInt ≤ 1 from ⟨(by omega), (by omega), w26, w27, w28, w29, w30⟩)
  · have c1 := i_nlt rfl ki_30 c1
    refine lv_bipush (v := (-5)) hx hb dX9_act_12 (by decide) ?_
    exact hret _ _ _ _ (-5) (t_acts, t_f18, u_rule, u_walkers, u_creeks, u_widow, u_faces, u_turn, n_field, n_houses, n_f0, n_f1, n_f2, n_f3, n_f4, n_f5, n_f6, n_f7, n_f8, n_f9, e_known) hP hD hS dX9_act_14 (show 0 ≤ t_acts.toInt ∧ t_acts.toInt ≤ 30 ∧ 0 ≤ n_houses.toInt ∧ n_houses.toInt ≤ 6 ∧ ai n_f1 7 (-1) 40 ∧ 0 ≤ e_known.toInt ∧ e_known.toInt ≤ 1 from ⟨(by omega), hh_t_acts, hl_n_houses, hh_n_houses, ha_n_f1, hl_e_known, hh_e_known⟩)
set_option maxHeartbeats 4000000 in
set_option maxRecDepth 100000 in
theorem f_X9_straightWay (l : Launch) (G : va_G) (cI cJ cZ cB cQ : ClassId) (sz : Nat) (h0 : Nat) (p0 : Int32) (p1 : Int32) (b : Nat → Nat) (bt : Nat → Nat) (t_lines : Int32) (t_span : Int32) (t_rule : Int32) (t_odds : Int32) (t_wide : Int32) (t_high : Int32) (t_creeks : Int32) (t_houses : Int32) (t_widows : Int32) (t_acts : Int32) (t_f10 : Nat → Int32) (t_f18 : Nat → Int32) (k_cells : Int64) (k_across : Int64) (k_down : Int64) (hl_t_span : 0 ≤ t_span.toInt) (hh_t_span : t_span.toInt ≤ 12) (hl_t_rule : 0 ≤ t_rule.toInt) (hh_t_rule : t_rule.toInt ≤ 3) (hl_t_odds : 0 ≤ t_odds.toInt) (hh_t_odds : t_odds.toInt ≤ 10) (hl_t_wide : 0 ≤ t_wide.toInt) (hh_t_wide : t_wide.toInt ≤ 8) (hl_t_high : 0 ≤ t_high.toInt) (hh_t_high : t_high.toInt ≤ 8) (hl_t_creeks : 0 ≤ t_creeks.toInt) (hh_t_creeks : t_creeks.toInt ≤ 12) (hl_t_houses : 0 ≤ t_houses.toInt) (hh_t_houses : t_houses.toInt ≤ 6) (hl_t_widows : 0 ≤ t_widows.toInt) (hh_t_widows : t_widows.toInt ≤ 7) (hl_t_acts : 0 ≤ t_acts.toInt) (hh_t_acts : t_acts.toInt ≤ 30) : CI l yX9_straightWay (wl_ yX9_straightWay cX9_straightWay 3 (some .int)) ({ frames := 2, cells := 0, slots := 0, locals := 55 } : Room) G (TY cI cJ cZ cB cQ) [.ref h0, .int p0, .int p1] [(h0, oX9 b), (b 1, oX0 bt t_lines t_span t_rule t_odds t_wide t_high t_creeks t_houses t_widows t_acts), (bt 10, .inl (cI, 12, .inl t_f10)), (bt 18, .inl (cI, 30, .inl t_f18)), (b 7, oX3 z0 k_cells k_across k_down)] sz (fun (r : Int32) (u : Int64 × Int64 × Int64) => True) (fun u : Int64 × Int64 × Int64 => [(h0, oX9 b), (b 1, oX0 bt t_lines t_span t_rule t_odds t_wide t_high t_creeks t_houses t_widows t_acts), (bt 10, .inl (cI, 12, .inl t_f10)), (bt 18, .inl (cI, 30, .inl t_f18)), (b 7, oX3 z0 u.1 u.2.1 u.2.2)]) 0 0 := by
  refine CI.go (cc := cX9_straightWay) (maxL := 3) (ret := (some .int)) (by decide) rfl (Nat.le_of_ble_eq_true rfl) ?_
  intro p e s m below meth c A ls Q hBd hret
  obtain ⟨hx, hb, hr, hml, hts, hown, hlk, hnm, hP, hK, hD, hA, hZ, hl⟩ := hBd
  have hown : s.vm.findClass RX9 = some m.cls := hown
  have hl : lv_has ls 3 [(0, .ref h0), (1, .int p0), (2, .int p1)] := hl
  have hS : va_S A s.heap s.heap [] := va_S.rf
  refine lv_aload_n hx hb dX9_straightWay_0 rfl (lv_at hl 0 rfl) ?_
  refine va_get (D := G) (ci := 9) (v := .ref (b 7)) (C := RX9) (T := TX9) (N := 11) hx hb hts iG_X9 hown hK hP 0 rfl rfl 7 (by decide) (hts _ w_358) (fun _ h9 => h9) rfl dX9_straightWay_1 ?_
  refine lv_aload_n hx hb dX9_straightWay_4 rfl (lv_at hl 0 rfl) ?_
  refine va_get (D := G) (ci := 9) (v := .ref (b 1)) (C := RX9) (T := TX9) (N := 11) hx hb hts iG_X9 hown hK hP 0 rfl rfl 1 (by decide) (hts _ w_352) (fun _ h9 => h9) rfl dX9_straightWay_5 ?_
  refine k_l (wc := [(b 1, oX0 bt t_lines t_span t_rule t_odds t_wide t_high t_creeks t_houses t_widows t_acts)]) (wr := [(h0, oX9 b), (bt 10, .inl (cI, 12, .inl t_f10)), (bt 18, .inl (cI, 30, .inl t_f18)), (b 7, oX3 z0 k_cells k_across k_down)]) hP hD hS hA [1] [0, 2, 3, 4] rfl rfl rfl (by decide) (va_runVN (As := []) (rest := [.ref (b 7)]) ⟨hx, hb, hml, hown, hts⟩ (f_X0_field l G cI cJ cZ cB cQ _ (b 1) bt t_lines t_span t_rule t_odds t_wide t_high t_creeks t_houses t_widows t_acts hl_t_span hh_t_span hl_t_rule hh_t_rule hl_t_odds hh_t_odds hl_t_wide hh_t_wide hl_t_high hh_t_high hl_t_creeks hh_t_creeks hl_t_houses hh_t_houses hl_t_widows hh_t_widows hl_t_acts hh_t_acts) ⟨va_cnB (host := "WidowRoads") 0 hts (gW w_593) rfl rfl rfl (nz_nw hZ nw_740 rfl) (hts _ w_4) hd_X0_field ⟨Nat.le_of_ble_eq_true rfl, Nat.le_of_ble_eq_true rfl⟩, (hts _ w_592), (hts _ wp_26)⟩ (mV hK hZ hP hD [1] rfl rfl [] 1 0 rfl rfl) rfl rfl hl.1 rfl (lv_room (Nat.le_of_ble_eq_true rfl)) dX9_straightWay_8 ⟨Nat.le_of_ble_eq_true rfl, Nat.le_of_ble_eq_true rfl⟩) (fun r1 u2 H locs hw3 hP hD hS => ?_)
  try dsimp only at hw3
  have hP : va_P G vwCl [(h0, oX9 b), (bt 10, .inl (cI, 12, .inl t_f10)), (bt 18, .inl (cI, 30, .inl t_f18)), (b 7, oX3 z0 k_cells k_across k_down), (b 1, oX0 bt t_lines t_span t_rule t_odds t_wide t_high t_creeks t_houses t_widows t_acts)] H := hP
  have hD : va_D A [(h0, oX9 b), (bt 10, .inl (cI, 12, .inl t_f10)), (bt 18, .inl (cI, 30, .inl t_f18)), (b 7, oX3 z0 k_cells k_across k_down), (b 1, oX0 bt t_lines t_span t_rule t_odds t_wide t_high t_creeks t_houses t_widows t_acts)] := hD
  refine lv_aload_n hx hb dX9_straightWay_11 rfl (lv_at hl 0 rfl) ?_
  refine va_get (D := G) (ci := 9) (v := .ref (b 1)) (C := RX9) (T := TX9) (N := 11) hx hb hts iG_X9 hown hK hP 0 rfl rfl 1 (by decide) (hts _ w_352) (fun _ h9 => h9) rfl dX9_straightWay_12 ?_
  refine k_l (wc := [(b 1, oX0 bt t_lines t_span t_rule t_odds t_wide t_high t_creeks t_houses t_widows t_acts), (bt 10, .inl (cI, 12, .inl t_f10)), (bt 18, .inl (cI, 30, .inl t_f18))]) (wr := [(h0, oX9 b), (b 7, oX3 z0 k_cells k_across k_down)]) hP hD hS hA [4, 1, 2] [0, 3] rfl rfl rfl (by decide) (va_runVN (As := []) (rest := [.long r1, .ref (b 7)]) ⟨hx, hb, hml, hown, hts⟩ (f_X0_creekBits l G cI cJ cZ cB cQ _ (b 1) bt t_lines t_span t_rule t_odds t_wide t_high t_creeks t_houses t_widows t_acts t_f10 t_f18 hl_t_span hh_t_span hl_t_rule hh_t_rule hl_t_odds hh_t_odds hl_t_wide hh_t_wide hl_t_high hh_t_high hl_t_creeks hh_t_creeks hl_t_houses hh_t_houses hl_t_widows hh_t_widows hl_t_acts hh_t_acts) ⟨va_cnB (host := "WidowRoads") 0 hts (gW w_516) rfl rfl rfl (nz_nw hZ nw_659 rfl) (hts _ w_4) hd_X0_creekBits ⟨Nat.le_of_ble_eq_true rfl, Nat.le_of_ble_eq_true rfl⟩, (hts _ w_515), (hts _ wp_12)⟩ (mV hK hZ hP hD [4, 1, 2] rfl rfl [] 4 0 rfl rfl) rfl rfl hl.1 rfl (lv_room (Nat.le_of_ble_eq_true rfl)) dX9_straightWay_15 ⟨Nat.le_of_ble_eq_true rfl, Nat.le_of_ble_eq_true rfl⟩) (fun r4 u5 H locs hw6 hP hD hS => ?_)
  try dsimp only at hw6
  have hP : va_P G vwCl [(h0, oX9 b), (b 7, oX3 z0 k_cells k_across k_down), (b 1, oX0 bt t_lines t_span t_rule t_odds t_wide t_high t_creeks t_houses t_widows t_acts), (bt 10, .inl (cI, 12, .inl t_f10)), (bt 18, .inl (cI, 30, .inl t_f18))] H := hP
  have hD : va_D A [(h0, oX9 b), (b 7, oX3 z0 k_cells k_across k_down), (b 1, oX0 bt t_lines t_span t_rule t_odds t_wide t_high t_creeks t_houses t_widows t_acts), (bt 10, .inl (cI, 12, .inl t_f10)), (bt 18, .inl (cI, 30, .inl t_f18))] := hD
  refine lv_ldc2 (v := (-1)) hx hb hown (hts _ w_741) dX9_straightWay_18 ?_
  refine lv_lxor hx hb dX9_straightWay_21 ?_
  refine lv_topl (fun v7 ev7 => ?_)
  refine lv_land hx hb dX9_straightWay_22 ?_
  refine lv_topl (fun v8 ev8 => ?_)
  refine k_v (wc := [(b 7, oX3 z0 k_cells k_across k_down)]) (wr := [(h0, oX9 b), (b 1, oX0 bt t_lines t_span t_rule t_odds t_wide t_high t_creeks t_houses t_widows t_acts), (bt 10, .inl (cI, 12, .inl t_f10)), (bt 18, .inl (cI, 30, .inl t_f18))]) hP hD hS hA [1] [0, 2, 3, 4] rfl rfl rfl (by decide) (va_runVN (As := [.long v8]) (rest := []) ⟨hx, hb, hml, hown, hts⟩ (f_X3_layAll l G cI cJ cZ cB cQ _ (b 7) v8 k_cells k_across k_down) ⟨va_cnB (host := "WidowRoads") 1 hts (gW w_745) rfl rfl rfl (nz_nw hZ nw_742 rfl) (hts _ w_8) hd_X3_layAll ⟨Nat.le_of_ble_eq_true rfl, Nat.le_of_ble_eq_true rfl⟩, (hts _ w_744), (hts _ wp_41)⟩ (mV hK hZ hP hD [1] rfl rfl [.long v8] 1 3 rfl rfl) rfl rfl hl.1 rfl (lv_room (Nat.le_of_ble_eq_true rfl)) dX9_straightWay_23 ⟨Nat.le_of_ble_eq_true rfl, Nat.le_of_ble_eq_true rfl⟩) (fun u10 H locs hw11 hP hD hS => ?_)
  obtain ⟨o_cellso12, o_acrosso13, o_downo14⟩ := u10
  try dsimp only at hw11
  have hP : va_P G vwCl [(h0, oX9 b), (b 1, oX0 bt t_lines t_span t_rule t_odds t_wide t_high t_creeks t_houses t_widows t_acts), (bt 10, .inl (cI, 12, .inl t_f10)), (bt 18, .inl (cI, 30, .inl t_f18)), (b 7, oX3 z0 o_cellso12 o_acrosso13 o_downo14)] H := hP
  have hD : va_D A [(h0, oX9 b), (b 1, oX0 bt t_lines t_span t_rule t_odds t_wide t_high t_creeks t_houses t_widows t_acts), (bt 10, .inl (cI, 12, .inl t_f10)), (bt 18, .inl (cI, 30, .inl t_f18)), (b 7, oX3 z0 o_cellso12 o_acrosso13 o_downo14)] := hD
  refine lv_aload_n hx hb dX9_straightWay_26 rfl (lv_at hl 0 rfl) ?_
  refine va_get (D := G) (ci := 9) (v := .ref (b 7)) (C := RX9) (T := TX9) (N := 11) hx hb hts iG_X9 hown hK hP 0 rfl rfl 7 (by decide) (hts _ w_358) (fun _ h9 => h9) rfl dX9_straightWay_27 ?_
  refine lv_iload_n hx hb dX9_straightWay_30 rfl (lv_at hl 1 rfl) ?_
  refine lv_iload_n hx hb dX9_straightWay_31 rfl (lv_at hl 2 rfl) ?_
  refine k_i (wc := [(b 7, oX3 z0 o_cellso12 o_acrosso13 o_downo14)]) (wr := [(h0, oX9 b), (b 1, oX0 bt t_lines t_span t_rule t_odds t_wide t_high t_creeks t_houses t_widows t_acts), (bt 10, .inl (cI, 12, .inl t_f10)), (bt 18, .inl (cI, 30, .inl t_f18))]) hP hD hS hA [4] [0, 1, 2, 3] rfl rfl rfl (by decide) (va_runVN (As := [.int p0, .int p1]) (rest := []) ⟨hx, hb, hml, hown, hts⟩ (f_X3_distance l G cI cJ cZ cB cQ _ (b 7) p0 p1 o_cellso12 o_acrosso13 o_downo14) ⟨va_cnB (host := "WidowRoads") 2 hts (gW w_750) rfl rfl rfl (nz_nw hZ nw_747 rfl) (hts _ w_8) hd_X3_distance ⟨Nat.le_of_ble_eq_true rfl, Nat.le_of_ble_eq_true rfl⟩, (hts _ w_749), (hts _ wp_42)⟩ (mV hK hZ hP hD [4] rfl rfl [.int p0, .int p1] 4 3 rfl rfl) rfl rfl hl.1 rfl (lv_room (Nat.le_of_ble_eq_true rfl)) dX9_straightWay_32 ⟨Nat.le_of_ble_eq_true rfl, Nat.le_of_ble_eq_true rfl⟩) (fun r15 u16 H locs hw17 hP hD hS => ?_)
  try dsimp only at hw17
  have hP : va_P G vwCl [(h0, oX9 b), (b 1, oX0 bt t_lines t_span t_rule t_odds t_wide t_high t_creeks t_houses t_widows t_acts), (bt 10, .inl (cI, 12, .inl t_f10)), (bt 18, .inl (cI, 30, .inl t_f18)), (b 7, oX3 z0 o_cellso12 o_acrosso13 o_downo14)] H := hP
  have hD : va_D A [(h0, oX9 b), (b 1, oX0 bt t_lines t_span t_rule t_odds t_wide t_high t_creeks t_houses t_widows t_acts), (bt 10, .inl (cI, 12, .inl t_f10)), (bt 18, .inl (cI, 30, .inl t_f18)), (b 7, oX3 z0 o_cellso12 o_acrosso13 o_downo14)] := hD
  exact hret _ _ _ _ r15 (o_cellso12, o_acrosso13, o_downo14) hP hD hS dX9_straightWay_35 trivial
set_option maxHeartbeats 4000000 in
set_option maxRecDepth 100000 in
theorem f_X9_widowsIn (l : Launch) (G : va_G) (cI cJ cZ cB cQ : ClassId) (sz : Nat) (h0 : Nat) (p0 : Int32) (b : Nat → Nat) (bt : Nat → Nat) (t_lines : Int32) (t_span : Int32) (t_rule : Int32) (t_odds : Int32) (t_wide : Int32) (t_high : Int32) (t_creeks : Int32) (t_houses : Int32) (t_widows : Int32) (t_acts : Int32) (bn : Nat → Nat) (n_field : Int64) (n_houses : Int32) (n_f3 : Nat → Int64) (hl_t_span : 0 ≤ t_span.toInt) (hh_t_span : t_span.toInt ≤ 12) (hl_t_rule : 0 ≤ t_rule.toInt) (hh_t_rule : t_rule.toInt ≤ 3) (hl_t_odds : 0 ≤ t_odds.toInt) (hh_t_odds : t_odds.toInt ≤ 10) (hl_t_wide : 0 ≤ t_wide.toInt) (hh_t_wide : t_wide.toInt ≤ 8) (hl_t_high : 0 ≤ t_high.toInt) (hh_t_high : t_high.toInt ≤ 8) (hl_t_creeks : 0 ≤ t_creeks.toInt) (hh_t_creeks : t_creeks.toInt ≤ 12) (hl_t_houses : 0 ≤ t_houses.toInt) (hh_t_houses : t_houses.toInt ≤ 6) (hl_t_widows : 0 ≤ t_widows.toInt) (hh_t_widows : t_widows.toInt ≤ 7) (hl_t_acts : 0 ≤ t_acts.toInt) (hh_t_acts : t_acts.toInt ≤ 30) (hl_n_houses : 0 ≤ n_houses.toInt) (hh_n_houses : n_houses.toInt ≤ 6) : CI l yX9_widowsIn (wl_ yX9_widowsIn cX9_widowsIn 4 (some .int)) ({ frames := 1, cells := 0, slots := 0, locals := 22 } : Room) G (TY cI cJ cZ cB cQ) [.ref h0, .int p0] [(h0, oX9 b), (b 1, oX0 bt t_lines t_span t_rule t_odds t_wide t_high t_creeks t_houses t_widows t_acts), (b 4, oX6 bn n_field n_houses), (bn 3, .inl (cJ, 7, .inr (.inl n_f3)))] sz (fun (r : Int32) (u : Unit) => True) (fun _ : Unit => [(h0, oX9 b), (b 1, oX0 bt t_lines t_span t_rule t_odds t_wide t_high t_creeks t_houses t_widows t_acts), (b 4, oX6 bn n_field n_houses), (bn 3, .inl (cJ, 7, .inr (.inl n_f3)))]) 0 0 := by
  refine CI.go (cc := cX9_widowsIn) (maxL := 4) (ret := (some .int)) (by decide) rfl (Nat.le_of_ble_eq_true rfl) ?_
  intro p e s m below meth c A ls Q hBd hret
  obtain ⟨hx, hb, hr, hml, hts, hown, hlk, hnm, hP, hK, hD, hA, hZ, hl⟩ := hBd
  have hown : s.vm.findClass RX9 = some m.cls := hown
  have hl : lv_has ls 4 [(0, .ref h0), (1, .int p0)] := hl
  have hS : va_S A s.heap s.heap [] := va_S.rf
  refine lv_iconst (v := 0) hx hb dX9_widowsIn_0 (by decide) ?_
  refine lv_istore_n (lv' := [(2, .int 0), (0, .ref h0), (1, .int p0)]) hx hb dX9_widowsIn_1 rfl hl (by decide) rfl (fun ls hl => ?_)
  refine lv_iconst (v := 0) hx hb dX9_widowsIn_2 (by decide) ?_
  refine lv_istore_n (lv' := [(3, .int 0), (2, .int 0), (0, .ref h0), (1, .int p0)]) hx hb dX9_widowsIn_3 rfl hl (by decide) rfl (fun ls hl => ?_)
  have lp1 : ∀ (n2 : Nat) (x3 : Int32) (x4 : Int32), 0 ≤ x4.toInt → x4.toInt ≤ 7 → 7 - x4.toInt < (n2 : Int) → ∀ (H : Heap) (locs : List Loc), va_P G vwCl [(h0, oX9 b), (b 1, oX0 bt t_lines t_span t_rule t_odds t_wide t_high t_creeks t_houses t_widows t_acts), (b 4, oX6 bn n_field n_houses), (bn 3, .inl (cJ, 7, .inr (.inl n_f3)))] H → va_D A [(h0, oX9 b), (b 1, oX0 bt t_lines t_span t_rule t_odds t_wide t_high t_creeks t_houses t_widows t_acts), (b 4, oX6 bn n_field n_houses), (bn 3, .inl (cJ, 7, .inr (.inl n_f3)))] → va_S A s.heap H locs → ∀ (ls : Array Slot), lv_has ls 4 [(3, .int x4), (2, .int x3), (0, .ref h0), (1, .int p0)] → W p l e ({ frames := 1, cells := 0, slots := 0, locals := 22 } : Room) s m ([.ref h0, .int p0] : List Value).toArray below meth c H locs 0 0 Q (F0 m 4 ls []) := by
    intro n2
    induction n2 with
    | zero =>
      intro x3 x4 k5 k6 mm8
      exact absurd mm8 (by have q9 := fb_rng x4; omega)
    | succ n2 ih7 =>
      intro x3 x4 k5 k6 mm8 H locs hP hD hS ls hl
      refine lv_iload_n hx hb dX9_widowsIn_4 rfl (lv_at hl 0 rfl) ?_
      refine lv_aload_n hx hb dX9_widowsIn_5 rfl (lv_at hl 2 rfl) ?_
      refine va_get (D := G) (ci := 9) (v := .ref (b 1)) (C := RX9) (T := TX9) (N := 11) hx hb hts iG_X9 hown hK hP 0 rfl rfl 1 (by decide) (hts _ w_352) (fun _ h9 => h9) rfl dX9_widowsIn_6 ?_
      refine va_getN (D := G) (ci := 0) (v := .int t_widows) (C := RX0) (T := TX0) (N := 19) hx hb hts iG_X0 hown hK hP 1 rfl rfl 8 (by decide) (nz_use hZ nw_88 rfl) (fun _ h9 => h9) rfl dX9_widowsIn_9 ?_
      refine lv_icmp_ge (tgt := 42) hx hb dX9_widowsIn_12 (by decide) (fun c9 => ?_) (fun c9 => ?_)
      · have c9 := i_le rfl rfl c9
        refine lv_iload_n hx hb dX9_widowsIn_42 rfl (lv_at hl 1 rfl) ?_
        exact hret _ _ _ _ x3 () hP hD hS dX9_widowsIn_43 trivial
      · have c9 := i_nle rfl rfl c9
        refine lv_iload_n hx hb dX9_widowsIn_15 rfl (lv_at hl 1 rfl) ?_
        refine lv_aload_n hx hb dX9_widowsIn_16 rfl (lv_at hl 2 rfl) ?_
        refine va_get (D := G) (ci := 9) (v := .ref (b 4)) (C := RX9) (T := TX9) (N := 11) hx hb hts iG_X9 hown hK hP 0 rfl rfl 4 (by decide) (hts _ w_355) (fun _ h9 => h9) rfl dX9_widowsIn_17 ?_
        refine va_getN (D := G) (ci := 6) (v := .ref (bn 3)) (C := RX6) (T := TX6) (N := 12) hx hb hts iG_X6 hown hK hP 2 rfl rfl 3 (by decide) (nz_use hZ nw_239 rfl) (fun _ h9 => h9) rfl dX9_widowsIn_20 ?_
        refine lv_iload_n hx hb dX9_widowsIn_23 rfl (lv_at hl 0 rfl) ?_
        refine va_lald hx hb hK hP 3 1 rfl rfl (ix_in rfl (by omega) (by omega)) dX9_widowsIn_24 ?_
        refine lv_topl (fun v10 ev10 => ?_)
        refine lv_iload_n hx hb dX9_widowsIn_25 rfl (lv_at hl 3 rfl) ?_
        refine k_i (wc := []) (wr := [(h0, oX9 b), (b 1, oX0 bt t_lines t_span t_rule t_odds t_wide t_high t_creeks t_houses t_widows t_acts), (b 4, oX6 bn n_field n_houses), (bn 3, .inl (cJ, 7, .inr (.inl n_f3)))]) hP hD hS hA [] [0, 1, 2, 3] rfl rfl rfl (by decide) (va_runS (As := [.long v10, .int p0]) (rest := [.int x3]) ⟨hx, hb, hml, hown, hts⟩ (f_X9_has l G cI cJ cZ cB cQ _ v10 p0) (va_cwS 2 hts (gS w_660 w_526 w_1 w_527) rfl rfl rfl hd_X9_has ⟨Nat.le_of_ble_eq_true rfl, Nat.le_of_ble_eq_true rfl⟩) (mS hK hZ hP hD [] rfl rfl [.long v10, .int p0]) rfl rfl hl.1 rfl (lv_room (Nat.le_of_ble_eq_true rfl)) dX9_widowsIn_26 ⟨Nat.le_of_ble_eq_true rfl, Nat.le_of_ble_eq_true rfl⟩) (fun r11 u12 H locs hw13 hP hD hS => ?_)
        try dsimp only at hw13
        have hP : va_P G vwCl [(h0, oX9 b), (b 1, oX0 bt t_lines t_span t_rule t_odds t_wide t_high t_creeks t_houses t_widows t_acts), (b 4, oX6 bn n_field n_houses), (bn 3, .inl (cJ, 7, .inr (.inl n_f3)))] H := hP
        have hD : va_D A [(h0, oX9 b), (b 1, oX0 bt t_lines t_span t_rule t_odds t_wide t_high t_creeks t_houses t_widows t_acts), (b 4, oX6 bn n_field n_houses), (bn 3, .inl (cJ, 7, .inr (.inl n_f3)))] := hD
        obtain ⟨w14, w15⟩ : 0 ≤ r11.toInt ∧ r11.toInt ≤ 1 := hw13
        refine k_i (wc := []) (wr := [(h0, oX9 b), (b 1, oX0 bt t_lines t_span t_rule t_odds t_wide t_high t_creeks t_houses t_widows t_acts), (b 4, oX6 bn n_field n_houses), (bn 3, .inl (cJ, 7, .inr (.inl n_f3)))]) hP hD hS hA [] [0, 1, 2, 3] rfl rfl rfl (by decide) (va_runS (As := [.int r11]) (rest := [.int x3]) ⟨hx, hb, hml, hown, hts⟩ (f_X9_oneIf l G cI cJ cZ cB cQ _ r11) (va_cwS 1 hts (gS w_661 w_662 w_1 w_663) rfl rfl rfl hd_X9_oneIf ⟨Nat.le_of_ble_eq_true rfl, Nat.le_of_ble_eq_true rfl⟩) (mS hK hZ hP hD [] rfl rfl [.int r11]) rfl rfl hl.1 rfl (lv_room (Nat.le_of_ble_eq_true rfl)) dX9_widowsIn_29 ⟨Nat.le_of_ble_eq_true rfl, Nat.le_of_ble_eq_true rfl⟩) (fun r16 u17 H locs hw18 hP hD hS => ?_)
        try dsimp only at hw18
        have hP : va_P G vwCl [(h0, oX9 b), (b 1, oX0 bt t_lines t_span t_rule t_odds t_wide t_high t_creeks t_houses t_widows t_acts), (b 4, oX6 bn n_field n_houses), (bn 3, .inl (cJ, 7, .inr (.inl n_f3)))] H := hP
        have hD : va_D A [(h0, oX9 b), (b 1, oX0 bt t_lines t_span t_rule t_odds t_wide t_high t_creeks t_houses t_widows t_acts), (b 4, oX6 bn n_field n_houses), (bn 3, .inl (cJ, 7, .inr (.inl n_f3)))] := hD
        obtain ⟨w19, w20⟩ : 0 ≤ r16.toInt ∧ r16.toInt ≤ 1 := hw18
        refine lv_iload_n hx hb dX9_widowsIn_32 rfl (lv_at hl 0 rfl) ?_
        refine lv_ishl hx hb dX9_widowsIn_33 ?_
        refine lv_topi (fun v21 ev21 => ?_)
        refine lv_ior hx hb dX9_widowsIn_34 ?_
        refine lv_topi (fun v22 ev22 => ?_)
        refine lv_istore_n (lv' := [(2, .int v22), (3, .int x4), (0, .ref h0), (1, .int p0)]) hx hb dX9_widowsIn_35 rfl hl (by decide) rfl (fun ls hl => ?_)
        obtain ⟨v23, ev23⟩ : ∃ y : Int32, y = x4 + 1 := ⟨_, rfl⟩
        have tv23 : v23.toInt = x4.toInt + 1 := ti_add rfl ki_1 ev23 (by omega) (by omega)
        refine lv_iinc (v := v23) (lv' := [(3, .int v23), (2, .int v22), (0, .ref h0), (1, .int p0)]) hx hb dX9_widowsIn_36 hl (k := 1) rfl (by rw [ev23]; rfl) (by decide) rfl (fun ls hl => ?_)
        refine lv_goto (tgt := 4) hx hb dX9_widowsIn_39 (by decide) ?_
        exact ih7 v22 v23 (by omega) (by omega) (by omega) _ _ hP hD hS ls (lv_sub hl [0, 1, 2, 3] rfl)
  exact lp1 8 0 0 (by rw [ki_0]; decide) (by rw [ki_0]; decide) (by rw [ki_0]; decide) _ _ hP hD hS ls (lv_sub hl [0, 1, 2, 3] rfl)
set_option maxHeartbeats 4000000 in
set_option maxRecDepth 100000 in
theorem f_X9_cellsOf (l : Launch) (G : va_G) (cI cJ cZ cB cQ : ClassId) (sz : Nat) (h0 : Nat) (p0 : Int32) (b : Nat → Nat) (bt : Nat → Nat) (t_lines : Int32) (t_span : Int32) (t_rule : Int32) (t_odds : Int32) (t_wide : Int32) (t_high : Int32) (t_creeks : Int32) (t_houses : Int32) (t_widows : Int32) (t_acts : Int32) (bn : Nat → Nat) (n_field : Int64) (n_houses : Int32) (n_f3 : Nat → Int64) (hl_t_span : 0 ≤ t_span.toInt) (hh_t_span : t_span.toInt ≤ 12) (hl_t_rule : 0 ≤ t_rule.toInt) (hh_t_rule : t_rule.toInt ≤ 3) (hl_t_odds : 0 ≤ t_odds.toInt) (hh_t_odds : t_odds.toInt ≤ 10) (hl_t_wide : 0 ≤ t_wide.toInt) (hh_t_wide : t_wide.toInt ≤ 8) (hl_t_high : 0 ≤ t_high.toInt) (hh_t_high : t_high.toInt ≤ 8) (hl_t_creeks : 0 ≤ t_creeks.toInt) (hh_t_creeks : t_creeks.toInt ≤ 12) (hl_t_houses : 0 ≤ t_houses.toInt) (hh_t_houses : t_houses.toInt ≤ 6) (hl_t_widows : 0 ≤ t_widows.toInt) (hh_t_widows : t_widows.toInt ≤ 7) (hl_t_acts : 0 ≤ t_acts.toInt) (hh_t_acts : t_acts.toInt ≤ 30) (hl_n_houses : 0 ≤ n_houses.toInt) (hh_n_houses : n_houses.toInt ≤ 6) : CL l yX9_cellsOf (wl_ yX9_cellsOf cX9_cellsOf 5 (some .long)) ({ frames := 0, cells := 0, slots := 0, locals := 0 } : Room) G (TY cI cJ cZ cB cQ) [.ref h0, .int p0] [(h0, oX9 b), (b 1, oX0 bt t_lines t_span t_rule t_odds t_wide t_high t_creeks t_houses t_widows t_acts), (b 4, oX6 bn n_field n_houses), (bn 3, .inl (cJ, 7, .inr (.inl n_f3)))] sz (fun (r : Int64) (u : Unit) => True) (fun _ : Unit => [(h0, oX9 b), (b 1, oX0 bt t_lines t_span t_rule t_odds t_wide t_high t_creeks t_houses t_widows t_acts), (b 4, oX6 bn n_field n_houses), (bn 3, .inl (cJ, 7, .inr (.inl n_f3)))]) 0 0 := by
  refine CL.go (cc := cX9_cellsOf) (maxL := 5) (ret := (some .long)) (by decide) rfl (Nat.le_of_ble_eq_true rfl) ?_
  intro p e s m below meth c A ls Q hBd hret
  obtain ⟨hx, hb, hr, hml, hts, hown, hlk, hnm, hP, hK, hD, hA, hZ, hl⟩ := hBd
  have hown : s.vm.findClass RX9 = some m.cls := hown
  have hl : lv_has ls 5 [(0, .ref h0), (1, .int p0)] := hl
  have hS : va_S A s.heap s.heap [] := va_S.rf
  refine lv_lconst (v := 0) hx hb dX9_cellsOf_0 (by decide) ?_
  refine lv_lstore_n (lv' := [(2, .long 0), (0, .ref h0), (1, .int p0)]) hx hb dX9_cellsOf_1 rfl hl (by decide) rfl (fun ls hl => ?_)
  refine lv_iconst (v := 0) hx hb dX9_cellsOf_2 (by decide) ?_
  refine lv_istore (lv' := [(4, .int 0), (2, .long 0), (0, .ref h0), (1, .int p0)]) hx hb dX9_cellsOf_3 hl (by decide) rfl (fun ls hl => ?_)
  have lp1 : ∀ (n2 : Nat) (x3 : Int32) (y4 : Int64), 0 ≤ x3.toInt → x3.toInt ≤ 7 → 7 - x3.toInt < (n2 : Int) → ∀ (H : Heap) (locs : List Loc), va_P G vwCl [(h0, oX9 b), (b 1, oX0 bt t_lines t_span t_rule t_odds t_wide t_high t_creeks t_houses t_widows t_acts), (b 4, oX6 bn n_field n_houses), (bn 3, .inl (cJ, 7, .inr (.inl n_f3)))] H → va_D A [(h0, oX9 b), (b 1, oX0 bt t_lines t_span t_rule t_odds t_wide t_high t_creeks t_houses t_widows t_acts), (b 4, oX6 bn n_field n_houses), (bn 3, .inl (cJ, 7, .inr (.inl n_f3)))] → va_S A s.heap H locs → ∀ (ls : Array Slot), lv_has ls 5 [(4, .int x3), (2, .long y4), (0, .ref h0), (1, .int p0)] → W p l e ({ frames := 0, cells := 0, slots := 0, locals := 0 } : Room) s m ([.ref h0, .int p0] : List Value).toArray below meth c H locs 0 0 Q (F0 m 5 ls []) := by
    intro n2
    induction n2 with
    | zero =>
      intro x3 y4 k5 k6 mm8
      exact absurd mm8 (by have q9 := fb_rng x3; omega)
    | succ n2 ih7 =>
      intro x3 y4 k5 k6 mm8 H locs hP hD hS ls hl
      refine lv_iload hx hb dX9_cellsOf_5 (lv_at hl 0 rfl) ?_
      refine lv_aload_n hx hb dX9_cellsOf_7 rfl (lv_at hl 2 rfl) ?_
      refine va_get (D := G) (ci := 9) (v := .ref (b 1)) (C := RX9) (T := TX9) (N := 11) hx hb hts iG_X9 hown hK hP 0 rfl rfl 1 (by decide) (hts _ w_352) (fun _ h9 => h9) rfl dX9_cellsOf_8 ?_
      refine va_getN (D := G) (ci := 0) (v := .int t_widows) (C := RX0) (T := TX0) (N := 19) hx hb hts iG_X0 hown hK hP 1 rfl rfl 8 (by decide) (nz_use hZ nw_88 rfl) (fun _ h9 => h9) rfl dX9_cellsOf_11 ?_
      refine lv_icmp_ge (tgt := 46) hx hb dX9_cellsOf_14 (by decide) (fun c9 => ?_) (fun c9 => ?_)
      · have c9 := i_le rfl rfl c9
        refine lv_lload_n hx hb dX9_cellsOf_46 rfl (lv_at hl 1 rfl) ?_
        exact hret _ _ _ _ y4 () hP hD hS dX9_cellsOf_47 trivial
      · have c9 := i_nle rfl rfl c9
        refine lv_iload_n hx hb dX9_cellsOf_17 rfl (lv_at hl 3 rfl) ?_
        refine lv_iload hx hb dX9_cellsOf_18 (lv_at hl 0 rfl) ?_
        refine lv_ishr hx hb dX9_cellsOf_20 ?_
        refine lv_topi (fun v10 ev10 => ?_)
        refine lv_iconst (v := 1) hx hb dX9_cellsOf_21 (by decide) ?_
        refine lv_iand hx hb dX9_cellsOf_22 ?_
        refine lv_topi (fun v11 ev11 => ?_)
        obtain ⟨sa12, sb13⟩ : 0 ≤ v11.toInt ∧ v11.toInt ≤ 1 := and_m 1 (by decide) (by decide) ev11
        refine lv_iconst (v := 1) hx hb dX9_cellsOf_23 (by decide) ?_
        refine lv_icmp_ne (tgt := 40) hx hb dX9_cellsOf_24 (by decide) (fun c14 => ?_) (fun c14 => ?_)
        · have c14 := i_ne rfl ki_1 c14
          obtain ⟨v15, ev15⟩ : ∃ y : Int32, y = x3 + 1 := ⟨_, rfl⟩
          have tv15 : v15.toInt = x3.toInt + 1 := ti_add rfl ki_1 ev15 (by omega) (by omega)
          refine lv_iinc (v := v15) (lv' := [(4, .int v15), (2, .long y4), (0, .ref h0), (1, .int p0)]) hx hb dX9_cellsOf_40 hl (k := 0) rfl (by rw [ev15]; rfl) (by decide) rfl (fun ls hl => ?_)
          refine lv_goto (tgt := 5) hx hb dX9_cellsOf_43 (by decide) ?_
          exact ih7 v15 y4 (by omega) (by omega) (by omega) _ _ hP hD hS ls (lv_sub hl [0, 1, 2, 3] rfl)
        · have c14 := i_eq rfl ki_1 c14
          refine lv_lload_n hx hb dX9_cellsOf_27 rfl (lv_at hl 1 rfl) ?_
          refine lv_aload_n hx hb dX9_cellsOf_28 rfl (lv_at hl 2 rfl) ?_
          refine va_get (D := G) (ci := 9) (v := .ref (b 4)) (C := RX9) (T := TX9) (N := 11) hx hb hts iG_X9 hown hK hP 0 rfl rfl 4 (by decide) (hts _ w_355) (fun _ h9 => h9) rfl dX9_cellsOf_29 ?_
          refine va_getN (D := G) (ci := 6) (v := .ref (bn 3)) (C := RX6) (T := TX6) (N := 12) hx hb hts iG_X6 hown hK hP 2 rfl rfl 3 (by decide) (nz_use hZ nw_239 rfl) (fun _ h9 => h9) rfl dX9_cellsOf_32 ?_
          refine lv_iload hx hb dX9_cellsOf_35 (lv_at hl 0 rfl) ?_
          refine va_lald hx hb hK hP 3 1 rfl rfl (ix_in rfl (by omega) (by omega)) dX9_cellsOf_37 ?_
          refine lv_topl (fun v16 ev16 => ?_)
          refine lv_lor hx hb dX9_cellsOf_38 ?_
          refine lv_topl (fun v17 ev17 => ?_)
          refine lv_lstore_n (lv' := [(2, .long v17), (4, .int x3), (0, .ref h0), (1, .int p0)]) hx hb dX9_cellsOf_39 rfl hl (by decide) rfl (fun ls hl => ?_)
          obtain ⟨v18, ev18⟩ : ∃ y : Int32, y = x3 + 1 := ⟨_, rfl⟩
          have tv18 : v18.toInt = x3.toInt + 1 := ti_add rfl ki_1 ev18 (by omega) (by omega)
          refine lv_iinc (v := v18) (lv' := [(4, .int v18), (2, .long v17), (0, .ref h0), (1, .int p0)]) hx hb dX9_cellsOf_40 hl (k := 1) rfl (by rw [ev18]; rfl) (by decide) rfl (fun ls hl => ?_)
          refine lv_goto (tgt := 5) hx hb dX9_cellsOf_43 (by decide) ?_
          exact ih7 v18 v17 (by omega) (by omega) (by omega) _ _ hP hD hS ls (lv_sub hl [0, 1, 2, 3] rfl)
  exact lp1 8 0 0 (by rw [ki_0]; decide) (by rw [ki_0]; decide) (by rw [ki_0]; decide) _ _ hP hD hS ls (lv_sub hl [0, 1, 2, 3] rfl)
set_option maxHeartbeats 4000000 in
set_option maxRecDepth 100000 in
theorem f_X9_fewestCovering (l : Launch) (G : va_G) (cI cJ cZ cB cQ : ClassId) (sz : Nat) (h0 : Nat) (b : Nat → Nat) (bt : Nat → Nat) (t_lines : Int32) (t_span : Int32) (t_rule : Int32) (t_odds : Int32) (t_wide : Int32) (t_high : Int32) (t_creeks : Int32) (t_houses : Int32) (t_widows : Int32) (t_acts : Int32) (bn : Nat → Nat) (n_field : Int64) (n_houses : Int32) (n_f3 : Nat → Int64) (n_f7 : Nat → Int64) (hl_t_span : 0 ≤ t_span.toInt) (hh_t_span : t_span.toInt ≤ 12) (hl_t_rule : 0 ≤ t_rule.toInt) (hh_t_rule : t_rule.toInt ≤ 3) (hl_t_odds : 0 ≤ t_odds.toInt) (hh_t_odds : t_odds.toInt ≤ 10) (hl_t_wide : 0 ≤ t_wide.toInt) (hh_t_wide : t_wide.toInt ≤ 8) (hl_t_high : 0 ≤ t_high.toInt) (hh_t_high : t_high.toInt ≤ 8) (hl_t_creeks : 0 ≤ t_creeks.toInt) (hh_t_creeks : t_creeks.toInt ≤ 12) (hl_t_houses : 0 ≤ t_houses.toInt) (hh_t_houses : t_houses.toInt ≤ 6) (hl_t_widows : 0 ≤ t_widows.toInt) (hh_t_widows : t_widows.toInt ≤ 7) (hl_t_acts : 0 ≤ t_acts.toInt) (hh_t_acts : t_acts.toInt ≤ 30) (hl_n_houses : 0 ≤ n_houses.toInt) (hh_n_houses : n_houses.toInt ≤ 6) : CI l yX9_fewestCovering (wl_ yX9_fewestCovering cX9_fewestCovering 5 (some .int)) ({ frames := 1, cells := 0, slots := 0, locals := 24 } : Room) G (TY cI cJ cZ cB cQ) [.ref h0] [(h0, oX9 b), (b 1, oX0 bt t_lines t_span t_rule t_odds t_wide t_high t_creeks t_houses t_widows t_acts), (b 4, oX6 bn n_field n_houses), (bn 3, .inl (cJ, 7, .inr (.inl n_f3))), (bn 7, .inl (cJ, 13, .inr (.inl n_f7)))] sz (fun (r : Int32) (u : Unit) => True) (fun _ : Unit => [(h0, oX9 b), (b 1, oX0 bt t_lines t_span t_rule t_odds t_wide t_high t_creeks t_houses t_widows t_acts), (b 4, oX6 bn n_field n_houses), (bn 3, .inl (cJ, 7, .inr (.inl n_f3))), (bn 7, .inl (cJ, 13, .inr (.inl n_f7)))]) 0 0 := by
  refine CI.go (cc := cX9_fewestCovering) (maxL := 5) (ret := (some .int)) (by decide) rfl (Nat.le_of_ble_eq_true rfl) ?_
  intro p e s m below meth c A ls Q hBd hret
  obtain ⟨hx, hb, hr, hml, hts, hown, hlk, hnm, hP, hK, hD, hA, hZ, hl⟩ := hBd
  have hown : s.vm.findClass RX9 = some m.cls := hown
  have hl : lv_has ls 5 [(0, .ref h0)] := hl
  have hS : va_S A s.heap s.heap [] := va_S.rf
  refine lv_iconst (v := (-1)) hx hb dX9_fewestCovering_0 (by decide) ?_
  refine lv_istore_n (lv' := [(1, .int (-1)), (0, .ref h0)]) hx hb dX9_fewestCovering_1 rfl hl (by decide) rfl (fun ls hl => ?_)
  refine lv_bipush (v := 8) hx hb dX9_fewestCovering_2 (by decide) ?_
  refine lv_istore_n (lv' := [(2, .int 8), (1, .int (-1)), (0, .ref h0)]) hx hb dX9_fewestCovering_4 rfl hl (by decide) rfl (fun ls hl => ?_)
  refine lv_iconst (v := 0) hx hb dX9_fewestCovering_5 (by decide) ?_
  refine lv_istore_n (lv' := [(3, .int 0), (2, .int 8), (1, .int (-1)), (0, .ref h0)]) hx hb dX9_fewestCovering_6 rfl hl (by decide) rfl (fun ls hl => ?_)
  have lp1 : ∀ (n2 : Nat) (x3 : Int32) (x4 : Int32) (x5 : Int32), (-1) ≤ x3.toInt → 0 ≤ x4.toInt → x4.toInt ≤ 8 → 0 ≤ x5.toInt → x5.toInt ≤ 128 → 128 - x5.toInt < (n2 : Int) → ∀ (H : Heap) (locs : List Loc), va_P G vwCl [(h0, oX9 b), (b 1, oX0 bt t_lines t_span t_rule t_odds t_wide t_high t_creeks t_houses t_widows t_acts), (b 4, oX6 bn n_field n_houses), (bn 3, .inl (cJ, 7, .inr (.inl n_f3))), (bn 7, .inl (cJ, 13, .inr (.inl n_f7)))] H → va_D A [(h0, oX9 b), (b 1, oX0 bt t_lines t_span t_rule t_odds t_wide t_high t_creeks t_houses t_widows t_acts), (b 4, oX6 bn n_field n_houses), (bn 3, .inl (cJ, 7, .inr (.inl n_f3))), (bn 7, .inl (cJ, 13, .inr (.inl n_f7)))] → va_S A s.heap H locs → ∀ (ls : Array Slot), lv_has ls 5 [(3, .int x5), (2, .int x4), (1, .int x3), (0, .ref h0)] → W p l e ({ frames := 1, cells := 0, slots := 0, locals := 24 } : Room) s m ([.ref h0] : List Value).toArray below meth c H locs 0 0 Q (F0 m 7 ls []) := by
    intro n2
    induction n2 with
    | zero =>
      intro x3 x4 x5 k6 k7 k8 k9 k10 mm12
      exact absurd mm12 (by have q9 := fb_rng x5; omega)
    | succ n2 ih11 =>
      intro x3 x4 x5 k6 k7 k8 k9 k10 mm12 H locs hP hD hS ls hl
      refine lv_iload_n hx hb dX9_fewestCovering_7 rfl (lv_at hl 0 rfl) ?_
      refine lv_iconst (v := 1) hx hb dX9_fewestCovering_8 (by decide) ?_
      refine lv_aload_n hx hb dX9_fewestCovering_9 rfl (lv_at hl 3 rfl) ?_
      refine va_get (D := G) (ci := 9) (v := .ref (b 1)) (C := RX9) (T := TX9) (N := 11) hx hb hts iG_X9 hown hK hP 0 rfl rfl 1 (by decide) (hts _ w_352) (fun _ h9 => h9) rfl dX9_fewestCovering_10 ?_
      refine va_getN (D := G) (ci := 0) (v := .int t_widows) (C := RX0) (T := TX0) (N := 19) hx hb hts iG_X0 hown hK hP 1 rfl rfl 8 (by decide) (nz_use hZ nw_88 rfl) (fun _ h9 => h9) rfl dX9_fewestCovering_13 ?_
      refine lv_ishl hx hb dX9_fewestCovering_16 ?_
      refine lv_topi (fun v13 ev13 => ?_)
      obtain ⟨sa14, sb15⟩ : 1 ≤ v13.toInt ∧ v13.toInt ≤ 128 := shl1 7 rfl (by omega) (by omega) (by decide) ev13
      refine lv_icmp_ge (tgt := 73) hx hb dX9_fewestCovering_17 (by decide) (fun c16 => ?_) (fun c16 => ?_)
      · have c16 := i_le rfl rfl c16
        refine lv_iload_n hx hb dX9_fewestCovering_73 rfl (lv_at hl 2 rfl) ?_
        exact hret _ _ _ _ x3 () hP hD hS dX9_fewestCovering_74 trivial
      · have c16 := i_nle rfl rfl c16
        refine lv_iload_n hx hb dX9_fewestCovering_20 rfl (lv_at hl 0 rfl) ?_
        refine k_i (wc := []) (wr := [(h0, oX9 b), (b 1, oX0 bt t_lines t_span t_rule t_odds t_wide t_high t_creeks t_houses t_widows t_acts), (b 4, oX6 bn n_field n_houses), (bn 3, .inl (cJ, 7, .inr (.inl n_f3))), (bn 7, .inl (cJ, 13, .inr (.inl n_f7)))]) hP hD hS hA [] [0, 1, 2, 3, 4] rfl rfl rfl (by decide) (va_runS (As := [.int x5]) (rest := []) ⟨hx, hb, hml, hown, hts⟩ (f_J6_bitCount_0f7a4 l G cI cJ cZ cB cQ _ x5) (va_cwS 1 hts (gS w_865 w_798 w_19 w_799) rfl rfl rfl hd_J6_bitCount_0f7a4 ⟨Nat.le_of_ble_eq_true rfl, Nat.le_of_ble_eq_true rfl⟩) (mS hK hZ hP hD [] rfl rfl [.int x5]) rfl rfl hl.1 rfl (lv_room (Nat.le_of_ble_eq_true rfl)) dX9_fewestCovering_21 ⟨Nat.le_of_ble_eq_true rfl, Nat.le_of_ble_eq_true rfl⟩) (fun r17 u18 H locs hw19 hP hD hS => ?_)
        try dsimp only at hw19
        have hP : va_P G vwCl [(h0, oX9 b), (b 1, oX0 bt t_lines t_span t_rule t_odds t_wide t_high t_creeks t_houses t_widows t_acts), (b 4, oX6 bn n_field n_houses), (bn 3, .inl (cJ, 7, .inr (.inl n_f3))), (bn 7, .inl (cJ, 13, .inr (.inl n_f7)))] H := hP
        have hD : va_D A [(h0, oX9 b), (b 1, oX0 bt t_lines t_span t_rule t_odds t_wide t_high t_creeks t_houses t_widows t_acts), (b 4, oX6 bn n_field n_houses), (bn 3, .inl (cJ, 7, .inr (.inl n_f3))), (bn 7, .inl (cJ, 13, .inr (.inl n_f7)))] := hD
        obtain ⟨w20, w21⟩ : 0 ≤ r17.toInt ∧ r17.toInt ≤ 63 := hw19
        refine lv_istore (lv' := [(4, .int r17), (3, .int x5), (2, .int x4), (1, .int x3), (0, .ref h0)]) hx hb dX9_fewestCovering_24 hl (by decide) rfl (fun ls hl => ?_)
        refine lv_iload hx hb dX9_fewestCovering_26 (lv_at hl 0 rfl) ?_
        refine lv_iload_n hx hb dX9_fewestCovering_28 rfl (lv_at hl 2 rfl) ?_
        refine lv_icmp_ge (tgt := 67) hx hb dX9_fewestCovering_29 (by decide) (fun c22 => ?_) (fun c22 => ?_)
        · have c22 := i_le rfl rfl c22
          obtain ⟨v23, ev23⟩ : ∃ y : Int32, y = x5 + 1 := ⟨_, rfl⟩
          have tv23 : v23.toInt = x5.toInt + 1 := ti_add rfl ki_1 ev23 (by omega) (by omega)
          refine lv_iinc (v := v23) (lv' := [(3, .int v23), (4, .int r17), (2, .int x4), (1, .int x3), (0, .ref h0)]) hx hb dX9_fewestCovering_67 hl (k := 1) rfl (by rw [ev23]; rfl) (by decide) rfl (fun ls hl => ?_)
          refine lv_goto (tgt := 7) hx hb dX9_fewestCovering_70 (by decide) ?_
          exact ih11 x3 x4 v23 k6 k7 k8 (by omega) (by omega) (by omega) _ _ hP hD hS ls (lv_sub hl [0, 2, 3, 4] rfl)
        · have c22 := i_nle rfl rfl c22
          refine lv_aload_n hx hb dX9_fewestCovering_32 rfl (lv_at hl 4 rfl) ?_
          refine va_get (D := G) (ci := 9) (v := .ref (b 4)) (C := RX9) (T := TX9) (N := 11) hx hb hts iG_X9 hown hK hP 0 rfl rfl 4 (by decide) (hts _ w_355) (fun _ h9 => h9) rfl dX9_fewestCovering_33 ?_
          refine va_getN (D := G) (ci := 6) (v := .ref (bn 7)) (C := RX6) (T := TX6) (N := 12) hx hb hts iG_X6 hown hK hP 2 rfl rfl 7 (by decide) (nz_use hZ nw_249 rfl) (fun _ h9 => h9) rfl dX9_fewestCovering_36 ?_
          refine lv_aload_n hx hb dX9_fewestCovering_39 rfl (lv_at hl 4 rfl) ?_
          refine va_get (D := G) (ci := 9) (v := .ref (b 1)) (C := RX9) (T := TX9) (N := 11) hx hb hts iG_X9 hown hK hP 0 rfl rfl 1 (by decide) (hts _ w_352) (fun _ h9 => h9) rfl dX9_fewestCovering_40 ?_
          refine va_getN (D := G) (ci := 0) (v := .int t_span) (C := RX0) (T := TX0) (N := 19) hx hb hts iG_X0 hown hK hP 1 rfl rfl 1 (by decide) (nz_use hZ nw_62 rfl) (fun _ h9 => h9) rfl dX9_fewestCovering_43 ?_
          refine va_lald hx hb hK hP 4 1 rfl rfl (ix_in rfl (by omega) (by omega)) dX9_fewestCovering_46 ?_
          refine lv_topl (fun v24 ev24 => ?_)
          refine lv_aload_n hx hb dX9_fewestCovering_47 rfl (lv_at hl 4 rfl) ?_
          refine lv_iload_n hx hb dX9_fewestCovering_48 rfl (lv_at hl 1 rfl) ?_
          refine k_l (wc := [(h0, oX9 b), (b 1, oX0 bt t_lines t_span t_rule t_odds t_wide t_high t_creeks t_houses t_widows t_acts), (b 4, oX6 bn n_field n_houses), (bn 3, .inl (cJ, 7, .inr (.inl n_f3)))]) (wr := [(bn 7, .inl (cJ, 13, .inr (.inl n_f7)))]) hP hD hS hA [0, 1, 2, 3] [4] rfl rfl rfl (by decide) (va_runV (As := [.int x5]) (rest := [.long v24]) ⟨hx, hb, hml, hown, hts⟩ (f_X9_cellsOf l G cI cJ cZ cB cQ _ h0 x5 b bt t_lines t_span t_rule t_odds t_wide t_high t_creeks t_houses t_widows t_acts bn n_field n_houses n_f3 hl_t_span hh_t_span hl_t_rule hh_t_rule hl_t_odds hh_t_odds hl_t_wide hh_t_wide hl_t_high hh_t_high hl_t_creeks hh_t_creeks hl_t_houses hh_t_houses hl_t_widows hh_t_widows hl_t_acts hh_t_acts hl_n_houses hh_n_houses) (cwV 1 hts (gV w_919 w_921 wp_56 w_1 w_922) rfl rfl rfl ⟨rfl, hd_X9_cellsOf⟩ ⟨Nat.le_of_ble_eq_true rfl, Nat.le_of_ble_eq_true rfl⟩) (mV hK hZ hP hD [0, 1, 2, 3] rfl rfl [.int x5] 0 9 rfl rfl) rfl rfl hl.1 rfl (lv_room (Nat.le_of_ble_eq_true rfl)) dX9_fewestCovering_49 ⟨Nat.le_of_ble_eq_true rfl, Nat.le_of_ble_eq_true rfl⟩) (fun r25 u26 H locs hw27 hP hD hS => ?_)
          try dsimp only at hw27
          have hP : va_P G vwCl [(bn 7, .inl (cJ, 13, .inr (.inl n_f7))), (h0, oX9 b), (b 1, oX0 bt t_lines t_span t_rule t_odds t_wide t_high t_creeks t_houses t_widows t_acts), (b 4, oX6 bn n_field n_houses), (bn 3, .inl (cJ, 7, .inr (.inl n_f3)))] H := hP
          have hD : va_D A [(bn 7, .inl (cJ, 13, .inr (.inl n_f7))), (h0, oX9 b), (b 1, oX0 bt t_lines t_span t_rule t_odds t_wide t_high t_creeks t_houses t_widows t_acts), (b 4, oX6 bn n_field n_houses), (bn 3, .inl (cJ, 7, .inr (.inl n_f3)))] := hD
          refine lv_ldc2 (v := (-1)) hx hb hown (hts _ w_741) dX9_fewestCovering_52 ?_
          refine lv_lxor hx hb dX9_fewestCovering_55 ?_
          refine lv_topl (fun v28 ev28 => ?_)
          refine lv_land hx hb dX9_fewestCovering_56 ?_
          refine lv_topl (fun v29 ev29 => ?_)
          refine lv_lconst (v := 0) hx hb dX9_fewestCovering_57 (by decide) ?_
          refine W.lcmp hx hb dX9_fewestCovering_58 ?_
          refine lv_if_ne (tgt := 67) hx hb dX9_fewestCovering_59 (by decide) (fun c30 => ?_) (fun c30 => ?_)
          · have c30 := c_ne rfl kl_0 c30
            obtain ⟨v31, ev31⟩ : ∃ y : Int32, y = x5 + 1 := ⟨_, rfl⟩
            have tv31 : v31.toInt = x5.toInt + 1 := ti_add rfl ki_1 ev31 (by omega) (by omega)
            refine lv_iinc (v := v31) (lv' := [(3, .int v31), (4, .int r17), (2, .int x4), (1, .int x3), (0, .ref h0)]) hx hb dX9_fewestCovering_67 hl (k := 1) rfl (by rw [ev31]; rfl) (by decide) rfl (fun ls hl => ?_)
            refine lv_goto (tgt := 7) hx hb dX9_fewestCovering_70 (by decide) ?_
            exact ih11 x3 x4 v31 k6 (by omega) k8 (by omega) (by omega) (by omega) _ _ (hP.sub [1, 2, 3, 4, 0] rfl) (hD.sub [1, 2, 3, 4, 0] rfl rfl) hS ls (lv_sub hl [0, 2, 3, 4] rfl)
          · have c30 := c_nne rfl kl_0 c30
            refine lv_iload hx hb dX9_fewestCovering_62 (lv_at hl 0 rfl) ?_
            refine lv_istore_n (lv' := [(2, .int r17), (4, .int r17), (3, .int x5), (1, .int x3), (0, .ref h0)]) hx hb dX9_fewestCovering_64 rfl hl (by decide) rfl (fun ls hl => ?_)
            refine lv_iload_n hx hb dX9_fewestCovering_65 rfl (lv_at hl 2 rfl) ?_
            refine lv_istore_n (lv' := [(1, .int x5), (2, .int r17), (4, .int r17), (3, .int x5), (0, .ref h0)]) hx hb dX9_fewestCovering_66 rfl hl (by decide) rfl (fun ls hl => ?_)
            obtain ⟨v32, ev32⟩ : ∃ y : Int32, y = x5 + 1 := ⟨_, rfl⟩
            have tv32 : v32.toInt = x5.toInt + 1 := ti_add rfl ki_1 ev32 (by omega) (by omega)
            refine lv_iinc (v := v32) (lv' := [(3, .int v32), (1, .int x5), (2, .int r17), (4, .int r17), (0, .ref h0)]) hx hb dX9_fewestCovering_67 hl (k := 3) rfl (by rw [ev32]; rfl) (by decide) rfl (fun ls hl => ?_)
            refine lv_goto (tgt := 7) hx hb dX9_fewestCovering_70 (by decide) ?_
            exact ih11 x5 r17 v32 (by omega) w20 (by omega) (by omega) (by omega) (by omega) _ _ (hP.sub [1, 2, 3, 4, 0] rfl) (hD.sub [1, 2, 3, 4, 0] rfl rfl) hS ls (lv_sub hl [0, 2, 1, 4] rfl)
  exact lp1 129 (-1) 8 0 (by rw [ki_m1]; decide) (by rw [ki_8]; decide) (by rw [ki_8]; decide) (by rw [ki_0]; decide) (by rw [ki_0]; decide) (by rw [ki_0]; decide) _ _ hP hD hS ls (lv_sub hl [0, 1, 2, 3] rfl)
set_option maxHeartbeats 4000000 in
set_option maxRecDepth 100000 in
theorem f_X9_tellByLaw (l : Launch) (G : va_G) (cI cJ cZ cB cQ : ClassId) (sz : Nat) (h0 : Nat) (p0 : Int32) (b : Nat → Nat) (bt : Nat → Nat) (t_lines : Int32) (t_span : Int32) (t_rule : Int32) (t_odds : Int32) (t_wide : Int32) (t_high : Int32) (t_creeks : Int32) (t_houses : Int32) (t_widows : Int32) (t_acts : Int32) (t_f10 : Nat → Int32) (t_f11 : Nat → Int32) (t_f12 : Nat → Int32) (t_f13 : Nat → Int32) (t_f14 : Nat → Int32) (t_f15 : Nat → Int32) (t_f16 : Nat → Int32) (t_f17 : Nat → Int32) (t_f18 : Nat → Int32) (u_rule : Int32) (u_walkers : Int32) (u_creeks : Int64) (u_widow : Int32) (u_faces : Int32) (u_turn : Int32) (bs : Nat → Nat) (s_field : Int64) (s_houses : Int32) (s_f0 : Nat → Int32) (s_f1 : Nat → Int32) (s_f2 : Nat → Int32) (s_f3 : Nat → Int64) (s_f4 : Nat → Int32) (s_f5 : Nat → Int32) (s_f6 : Nat → Int32) (s_f7 : Nat → Int64) (s_f8 : Nat → Int64) (s_f9 : Nat → Int64) (hl_t_span : 0 ≤ t_span.toInt) (hh_t_span : t_span.toInt ≤ 12) (hl_t_rule : 0 ≤ t_rule.toInt) (hh_t_rule : t_rule.toInt ≤ 3) (hl_t_odds : 0 ≤ t_odds.toInt) (hh_t_odds : t_odds.toInt ≤ 10) (hl_t_wide : 0 ≤ t_wide.toInt) (hh_t_wide : t_wide.toInt ≤ 8) (hl_t_high : 0 ≤ t_high.toInt) (hh_t_high : t_high.toInt ≤ 8) (hl_t_creeks : 0 ≤ t_creeks.toInt) (hh_t_creeks : t_creeks.toInt ≤ 12) (hl_t_houses : 0 ≤ t_houses.toInt) (hh_t_houses : t_houses.toInt ≤ 6) (hl_t_widows : 0 ≤ t_widows.toInt) (hh_t_widows : t_widows.toInt ≤ 7) (hl_t_acts : 0 ≤ t_acts.toInt) (hh_t_acts : t_acts.toInt ≤ 30) (ha_t_f14 : ai t_f14 7 (-2147483648) 40) (ha_t_f16 : ai t_f16 7 (-2147483648) 8) (hl_s_houses : 0 ≤ s_houses.toInt) (hh_s_houses : s_houses.toInt ≤ 6) (ha_s_f1 : ai s_f1 7 (-1) 40) : CV l yX9_tellByLaw (wl_ yX9_tellByLaw cX9_tellByLaw 2 none) ({ frames := 4, cells := 0, slots := 0, locals := 105 } : Room) G (TY cI cJ cZ cB cQ) [.ref h0, .int p0] [(h0, oX9 b), (b 1, oX0 bt t_lines t_span t_rule t_odds t_wide t_high t_creeks t_houses t_widows t_acts), (bt 10, .inl (cI, 12, .inl t_f10)), (bt 11, .inl (cI, 6, .inl t_f11)), (bt 12, .inl (cI, 7, .inl t_f12)), (bt 13, .inl (cI, 7, .inl t_f13)), (bt 14, .inl (cI, 7, .inl t_f14)), (bt 15, .inl (cI, 7, .inl t_f15)), (bt 16, .inl (cI, 7, .inl t_f16)), (bt 17, .inl (cI, 56, .inl t_f17)), (bt 18, .inl (cI, 30, .inl t_f18)), (b 3, oX7 z0 u_rule u_walkers u_creeks u_widow u_faces u_turn), (b 5, oX6 bs s_field s_houses), (bs 0, .inl (cI, 287, .inl s_f0)), (bs 1, .inl (cI, 7, .inl s_f1)), (bs 2, .inl (cI, 7, .inl s_f2)), (bs 3, .inl (cJ, 7, .inr (.inl s_f3))), (bs 4, .inl (cI, 7, .inl s_f4)), (bs 5, .inl (cI, 6, .inl s_f5)), (bs 6, .inl (cI, 78, .inl s_f6)), (bs 7, .inl (cJ, 13, .inr (.inl s_f7))), (bs 8, .inl (cJ, 13, .inr (.inl s_f8))), (bs 9, .inl (cJ, 13, .inr (.inl s_f9)))] sz (fun (u : Int32 × Int32 × Int64 × Int32 × Int32 × Int32 × Int64 × Int32 × (Nat → Int32) × (Nat → Int32) × (Nat → Int32) × (Nat → Int64) × (Nat → Int32) × (Nat → Int32) × (Nat → Int32) × (Nat → Int64) × (Nat → Int64) × (Nat → Int64)) => 0 ≤ u.2.2.2.2.2.2.2.1.toInt ∧ u.2.2.2.2.2.2.2.1.toInt ≤ 6 ∧ ai u.2.2.2.2.2.2.2.2.2.1 7 (-1) 40) (fun u : Int32 × Int32 × Int64 × Int32 × Int32 × Int32 × Int64 × Int32 × (Nat → Int32) × (Nat → Int32) × (Nat → Int32) × (Nat → Int64) × (Nat → Int32) × (Nat → Int32) × (Nat → Int32) × (Nat → Int64) × (Nat → Int64) × (Nat → Int64) => [(h0, oX9 b), (b 1, oX0 bt t_lines t_span t_rule t_odds t_wide t_high t_creeks t_houses t_widows t_acts), (bt 10, .inl (cI, 12, .inl t_f10)), (bt 11, .inl (cI, 6, .inl t_f11)), (bt 12, .inl (cI, 7, .inl t_f12)), (bt 13, .inl (cI, 7, .inl t_f13)), (bt 14, .inl (cI, 7, .inl t_f14)), (bt 15, .inl (cI, 7, .inl t_f15)), (bt 16, .inl (cI, 7, .inl t_f16)), (bt 17, .inl (cI, 56, .inl t_f17)), (bt 18, .inl (cI, 30, .inl t_f18)), (b 3, oX7 z0 u.1 u.2.1 u.2.2.1 u.2.2.2.1 u.2.2.2.2.1 u.2.2.2.2.2.1), (b 5, oX6 bs u.2.2.2.2.2.2.1 u.2.2.2.2.2.2.2.1), (bs 0, .inl (cI, 287, .inl u.2.2.2.2.2.2.2.2.1)), (bs 1, .inl (cI, 7, .inl u.2.2.2.2.2.2.2.2.2.1)), (bs 2, .inl (cI, 7, .inl u.2.2.2.2.2.2.2.2.2.2.1)), (bs 3, .inl (cJ, 7, .inr (.inl u.2.2.2.2.2.2.2.2.2.2.2.1))), (bs 4, .inl (cI, 7, .inl u.2.2.2.2.2.2.2.2.2.2.2.2.1)), (bs 5, .inl (cI, 6, .inl u.2.2.2.2.2.2.2.2.2.2.2.2.2.1)), (bs 6, .inl (cI, 78, .inl u.2.2.2.2.2.2.2.2.2.2.2.2.2.2.1)), (bs 7, .inl (cJ, 13, .inr (.inl u.2.2.2.2.2.2.2.2.2.2.2.2.2.2.2.1))), (bs 8, .inl (cJ, 13, .inr (.inl u.2.2.2.2.2.2.2.2.2.2.2.2.2.2.2.2.1))), (bs 9, .inl (cJ, 13, .inr (.inl u.2.2.2.2.2.2.2.2.2.2.2.2.2.2.2.2.2)))]) 0 0 := by
  refine CV.go (cc := cX9_tellByLaw) (maxL := 2) (ret := none) (by decide) rfl (Nat.le_of_ble_eq_true rfl) ?_
  intro p e s m below meth c A ls Q hBd hret
  obtain ⟨hx, hb, hr, hml, hts, hown, hlk, hnm, hP, hK, hD, hA, hZ, hl⟩ := hBd
  have hown : s.vm.findClass RX9 = some m.cls := hown
  have hl : lv_has ls 2 [(0, .ref h0), (1, .int p0)] := hl
  have hS : va_S A s.heap s.heap [] := va_S.rf
  refine lv_aload_n hx hb dX9_tellByLaw_0 rfl (lv_at hl 0 rfl) ?_
  refine va_get (D := G) (ci := 9) (v := .ref (b 3)) (C := RX9) (T := TX9) (N := 11) hx hb hts iG_X9 hown hK hP 0 rfl rfl 3 (by decide) (hts _ w_354) (fun _ h9 => h9) rfl dX9_tellByLaw_1 ?_
  refine lv_aload_n hx hb dX9_tellByLaw_4 rfl (lv_at hl 0 rfl) ?_
  refine va_get (D := G) (ci := 9) (v := .ref (b 1)) (C := RX9) (T := TX9) (N := 11) hx hb hts iG_X9 hown hK hP 0 rfl rfl 1 (by decide) (hts _ w_352) (fun _ h9 => h9) rfl dX9_tellByLaw_5 ?_
  refine k_v (wc := [(b 3, oX7 z0 u_rule u_walkers u_creeks u_widow u_faces u_turn), (b 1, oX0 bt t_lines t_span t_rule t_odds t_wide t_high t_creeks t_houses t_widows t_acts), (bt 10, .inl (cI, 12, .inl t_f10)), (bt 18, .inl (cI, 30, .inl t_f18))]) (wr := [(h0, oX9 b), (bt 11, .inl (cI, 6, .inl t_f11)), (bt 12, .inl (cI, 7, .inl t_f12)), (bt 13, .inl (cI, 7, .inl t_f13)), (bt 14, .inl (cI, 7, .inl t_f14)), (bt 15, .inl (cI, 7, .inl t_f15)), (bt 16, .inl (cI, 7, .inl t_f16)), (bt 17, .inl (cI, 56, .inl t_f17)), (b 5, oX6 bs s_field s_houses), (bs 0, .inl (cI, 287, .inl s_f0)), (bs 1, .inl (cI, 7, .inl s_f1)), (bs 2, .inl (cI, 7, .inl s_f2)), (bs 3, .inl (cJ, 7, .inr (.inl s_f3))), (bs 4, .inl (cI, 7, .inl s_f4)), (bs 5, .inl (cI, 6, .inl s_f5)), (bs 6, .inl (cI, 78, .inl s_f6)), (bs 7, .inl (cJ, 13, .inr (.inl s_f7))), (bs 8, .inl (cJ, 13, .inr (.inl s_f8))), (bs 9, .inl (cJ, 13, .inr (.inl s_f9)))]) hP hD hS hA [11, 1, 2, 10] [0, 3, 4, 5, 6, 7, 8, 9, 12, 13, 14, 15, 16, 17, 18, 19, 20, 21, 22] rfl rfl rfl (by decide) (va_runVN (As := [.ref (b 1)]) (rest := []) ⟨hx, hb, hml, hown, hts⟩ (f_X7_asNow l G cI cJ cZ cB cQ _ (b 3) (b 1) u_rule u_walkers u_creeks u_widow u_faces u_turn bt t_lines t_span t_rule t_odds t_wide t_high t_creeks t_houses t_widows t_acts t_f10 t_f18 hl_t_span hh_t_span hl_t_rule hh_t_rule hl_t_odds hh_t_odds hl_t_wide hh_t_wide hl_t_high hh_t_high hl_t_creeks hh_t_creeks hl_t_houses hh_t_houses hl_t_widows hh_t_widows hl_t_acts hh_t_acts) ⟨va_cnB (host := "WidowRoads") 1 hts (gW w_576) rfl rfl rfl (nz_nw hZ nw_573 rfl) (hts _ w_5) hd_X7_asNow ⟨Nat.le_of_ble_eq_true rfl, Nat.le_of_ble_eq_true rfl⟩, (hts _ w_575), (hts _ wp_22)⟩ (mV hK hZ hP hD [11, 1, 2, 10] rfl rfl [.ref (b 1)] 11 7 rfl rfl) rfl rfl hl.1 rfl (lv_room (Nat.le_of_ble_eq_true rfl)) dX9_tellByLaw_8 ⟨Nat.le_of_ble_eq_true rfl, Nat.le_of_ble_eq_true rfl⟩) (fun u2 H locs hw3 hP hD hS => ?_)
  obtain ⟨o_ruleo4, o_walkerso5, o_creekso6, o_widowo7, o_faceso8, o_turno9⟩ := u2
  try dsimp only at hw3
  have hP : va_P G vwCl [(h0, oX9 b), (bt 11, .inl (cI, 6, .inl t_f11)), (bt 12, .inl (cI, 7, .inl t_f12)), (bt 13, .inl (cI, 7, .inl t_f13)), (bt 14, .inl (cI, 7, .inl t_f14)), (bt 15, .inl (cI, 7, .inl t_f15)), (bt 16, .inl (cI, 7, .inl t_f16)), (bt 17, .inl (cI, 56, .inl t_f17)), (b 5, oX6 bs s_field s_houses), (bs 0, .inl (cI, 287, .inl s_f0)), (bs 1, .inl (cI, 7, .inl s_f1)), (bs 2, .inl (cI, 7, .inl s_f2)), (bs 3, .inl (cJ, 7, .inr (.inl s_f3))), (bs 4, .inl (cI, 7, .inl s_f4)), (bs 5, .inl (cI, 6, .inl s_f5)), (bs 6, .inl (cI, 78, .inl s_f6)), (bs 7, .inl (cJ, 13, .inr (.inl s_f7))), (bs 8, .inl (cJ, 13, .inr (.inl s_f8))), (bs 9, .inl (cJ, 13, .inr (.inl s_f9))), (b 3, oX7 z0 o_ruleo4 o_walkerso5 o_creekso6 o_widowo7 o_faceso8 o_turno9), (b 1, oX0 bt t_lines t_span t_rule t_odds t_wide t_high t_creeks t_houses t_widows t_acts), (bt 10, .inl (cI, 12, .inl t_f10)), (bt 18, .inl (cI, 30, .inl t_f18))] H := hP
  have hD : va_D A [(h0, oX9 b), (bt 11, .inl (cI, 6, .inl t_f11)), (bt 12, .inl (cI, 7, .inl t_f12)), (bt 13, .inl (cI, 7, .inl t_f13)), (bt 14, .inl (cI, 7, .inl t_f14)), (bt 15, .inl (cI, 7, .inl t_f15)), (bt 16, .inl (cI, 7, .inl t_f16)), (bt 17, .inl (cI, 56, .inl t_f17)), (b 5, oX6 bs s_field s_houses), (bs 0, .inl (cI, 287, .inl s_f0)), (bs 1, .inl (cI, 7, .inl s_f1)), (bs 2, .inl (cI, 7, .inl s_f2)), (bs 3, .inl (cJ, 7, .inr (.inl s_f3))), (bs 4, .inl (cI, 7, .inl s_f4)), (bs 5, .inl (cI, 6, .inl s_f5)), (bs 6, .inl (cI, 78, .inl s_f6)), (bs 7, .inl (cJ, 13, .inr (.inl s_f7))), (bs 8, .inl (cJ, 13, .inr (.inl s_f8))), (bs 9, .inl (cJ, 13, .inr (.inl s_f9))), (b 3, oX7 z0 o_ruleo4 o_walkerso5 o_creekso6 o_widowo7 o_faceso8 o_turno9), (b 1, oX0 bt t_lines t_span t_rule t_odds t_wide t_high t_creeks t_houses t_widows t_acts), (bt 10, .inl (cI, 12, .inl t_f10)), (bt 18, .inl (cI, 30, .inl t_f18))] := hD
  refine lv_aload_n hx hb dX9_tellByLaw_11 rfl (lv_at hl 0 rfl) ?_
  refine va_get (D := G) (ci := 9) (v := .ref (b 3)) (C := RX9) (T := TX9) (N := 11) hx hb hts iG_X9 hown hK hP 0 rfl rfl 3 (by decide) (hts _ w_354) (fun _ h9 => h9) rfl dX9_tellByLaw_12 ?_
  refine lv_iload_n hx hb dX9_tellByLaw_15 rfl (lv_at hl 1 rfl) ?_
  refine va_putN (D := G) (ci := 7) (v := .int p0) (ty := .int) (C := RX7) (T := TX7) (N := 6) hx hb hts iG_X7 tyX7 tyX7_ok nmX7 hown hK hP hD hS 19 rfl rfl 0 (by decide) (nz_use hZ nw_200 rfl) (fun _ h9 => h9) rfl (by decide +kernel) rfl rfl (Nat.le_of_ble_eq_true rfl) dX9_tellByLaw_16 (fun H locs hP hD hS => ?_)
  have hP : va_P G vwCl [(h0, oX9 b), (bt 11, .inl (cI, 6, .inl t_f11)), (bt 12, .inl (cI, 7, .inl t_f12)), (bt 13, .inl (cI, 7, .inl t_f13)), (bt 14, .inl (cI, 7, .inl t_f14)), (bt 15, .inl (cI, 7, .inl t_f15)), (bt 16, .inl (cI, 7, .inl t_f16)), (bt 17, .inl (cI, 56, .inl t_f17)), (b 5, oX6 bs s_field s_houses), (bs 0, .inl (cI, 287, .inl s_f0)), (bs 1, .inl (cI, 7, .inl s_f1)), (bs 2, .inl (cI, 7, .inl s_f2)), (bs 3, .inl (cJ, 7, .inr (.inl s_f3))), (bs 4, .inl (cI, 7, .inl s_f4)), (bs 5, .inl (cI, 6, .inl s_f5)), (bs 6, .inl (cI, 78, .inl s_f6)), (bs 7, .inl (cJ, 13, .inr (.inl s_f7))), (bs 8, .inl (cJ, 13, .inr (.inl s_f8))), (bs 9, .inl (cJ, 13, .inr (.inl s_f9))), (b 3, oX7 z0 p0 o_walkerso5 o_creekso6 o_widowo7 o_faceso8 o_turno9), (b 1, oX0 bt t_lines t_span t_rule t_odds t_wide t_high t_creeks t_houses t_widows t_acts), (bt 10, .inl (cI, 12, .inl t_f10)), (bt 18, .inl (cI, 30, .inl t_f18))] H := hP
  have hD : va_D A [(h0, oX9 b), (bt 11, .inl (cI, 6, .inl t_f11)), (bt 12, .inl (cI, 7, .inl t_f12)), (bt 13, .inl (cI, 7, .inl t_f13)), (bt 14, .inl (cI, 7, .inl t_f14)), (bt 15, .inl (cI, 7, .inl t_f15)), (bt 16, .inl (cI, 7, .inl t_f16)), (bt 17, .inl (cI, 56, .inl t_f17)), (b 5, oX6 bs s_field s_houses), (bs 0, .inl (cI, 287, .inl s_f0)), (bs 1, .inl (cI, 7, .inl s_f1)), (bs 2, .inl (cI, 7, .inl s_f2)), (bs 3, .inl (cJ, 7, .inr (.inl s_f3))), (bs 4, .inl (cI, 7, .inl s_f4)), (bs 5, .inl (cI, 6, .inl s_f5)), (bs 6, .inl (cI, 78, .inl s_f6)), (bs 7, .inl (cJ, 13, .inr (.inl s_f7))), (bs 8, .inl (cJ, 13, .inr (.inl s_f8))), (bs 9, .inl (cJ, 13, .inr (.inl s_f9))), (b 3, oX7 z0 p0 o_walkerso5 o_creekso6 o_widowo7 o_faceso8 o_turno9), (b 1, oX0 bt t_lines t_span t_rule t_odds t_wide t_high t_creeks t_houses t_widows t_acts), (bt 10, .inl (cI, 12, .inl t_f10)), (bt 18, .inl (cI, 30, .inl t_f18))] := hD
  refine lv_aload_n hx hb dX9_tellByLaw_19 rfl (lv_at hl 0 rfl) ?_
  refine va_get (D := G) (ci := 9) (v := .ref (b 5)) (C := RX9) (T := TX9) (N := 11) hx hb hts iG_X9 hown hK hP 0 rfl rfl 5 (by decide) (hts _ w_356) (fun _ h9 => h9) rfl dX9_tellByLaw_20 ?_
  refine lv_aload_n hx hb dX9_tellByLaw_23 rfl (lv_at hl 0 rfl) ?_
  refine va_get (D := G) (ci := 9) (v := .ref (b 1)) (C := RX9) (T := TX9) (N := 11) hx hb hts iG_X9 hown hK hP 0 rfl rfl 1 (by decide) (hts _ w_352) (fun _ h9 => h9) rfl dX9_tellByLaw_24 ?_
  refine lv_aload_n hx hb dX9_tellByLaw_27 rfl (lv_at hl 0 rfl) ?_
  refine va_get (D := G) (ci := 9) (v := .ref (b 3)) (C := RX9) (T := TX9) (N := 11) hx hb hts iG_X9 hown hK hP 0 rfl rfl 3 (by decide) (hts _ w_354) (fun _ h9 => h9) rfl dX9_tellByLaw_28 ?_
  refine k_v (wc := [(b 5, oX6 bs s_field s_houses), (bs 0, .inl (cI, 287, .inl s_f0)), (bs 1, .inl (cI, 7, .inl s_f1)), (bs 2, .inl (cI, 7, .inl s_f2)), (bs 3, .inl (cJ, 7, .inr (.inl s_f3))), (bs 4, .inl (cI, 7, .inl s_f4)), (bs 5, .inl (cI, 6, .inl s_f5)), (bs 6, .inl (cI, 78, .inl s_f6)), (bs 7, .inl (cJ, 13, .inr (.inl s_f7))), (bs 8, .inl (cJ, 13, .inr (.inl s_f8))), (bs 9, .inl (cJ, 13, .inr (.inl s_f9))), (b 1, oX0 bt t_lines t_span t_rule t_odds t_wide t_high t_creeks t_houses t_widows t_acts), (bt 11, .inl (cI, 6, .inl t_f11)), (bt 12, .inl (cI, 7, .inl t_f12)), (bt 13, .inl (cI, 7, .inl t_f13)), (bt 14, .inl (cI, 7, .inl t_f14)), (bt 15, .inl (cI, 7, .inl t_f15)), (bt 16, .inl (cI, 7, .inl t_f16)), (bt 17, .inl (cI, 56, .inl t_f17)), (b 3, oX7 z0 p0 o_walkerso5 o_creekso6 o_widowo7 o_faceso8 o_turno9)]) (wr := [(h0, oX9 b), (bt 10, .inl (cI, 12, .inl t_f10)), (bt 18, .inl (cI, 30, .inl t_f18))]) hP hD hS hA [8, 9, 10, 11, 12, 13, 14, 15, 16, 17, 18, 20, 1, 2, 3, 4, 5, 6, 7, 19] [0, 21, 22] rfl rfl rfl (by decide) (va_runVN (As := [.ref (b 1), .ref (b 3)]) (rest := []) ⟨hx, hb, hml, hown, hts⟩ (f_X6_tell l G cI cJ cZ cB cQ _ (b 5) (b 1) (b 3) bs s_field s_houses s_f0 s_f1 s_f2 s_f3 s_f4 s_f5 s_f6 s_f7 s_f8 s_f9 bt t_lines t_span t_rule t_odds t_wide t_high t_creeks t_houses t_widows t_acts t_f11 t_f12 t_f13 t_f14 t_f15 t_f16 t_f17 p0 o_walkerso5 o_creekso6 o_widowo7 o_faceso8 o_turno9 hl_s_houses hh_s_houses ha_s_f1 hl_t_span hh_t_span hl_t_rule hh_t_rule hl_t_odds hh_t_odds hl_t_wide hh_t_wide hl_t_high hh_t_high hl_t_creeks hh_t_creeks hl_t_houses hh_t_houses hl_t_widows hh_t_widows hl_t_acts hh_t_acts ha_t_f14 ha_t_f16) ⟨va_cnB (host := "WidowRoads") 2 hts (gW w_585) rfl rfl rfl (nz_nw hZ nw_582 rfl) (hts _ w_6) hd_X6_tell ⟨Nat.le_of_ble_eq_true rfl, Nat.le_of_ble_eq_true rfl⟩, (hts _ w_584), (hts _ wp_24)⟩ (mV hK hZ hP hD [8, 9, 10, 11, 12, 13, 14, 15, 16, 17, 18, 20, 1, 2, 3, 4, 5, 6, 7, 19] rfl rfl [.ref (b 1), .ref (b 3)] 8 6 rfl rfl) rfl rfl hl.1 rfl (lv_room (Nat.le_of_ble_eq_true rfl)) dX9_tellByLaw_31 ⟨Nat.le_of_ble_eq_true rfl, Nat.le_of_ble_eq_true rfl⟩) (fun u11 H locs hw12 hP hD hS => ?_)
  obtain ⟨o_fieldo13, o_houseso14, o_f0o15, o_f1o16, o_f2o17, o_f3o18, o_f4o19, o_f5o20, o_f6o21, o_f7o22, o_f8o23, o_f9o24⟩ := u11
  try dsimp only at hw12
  have hP : va_P G vwCl [(h0, oX9 b), (bt 10, .inl (cI, 12, .inl t_f10)), (bt 18, .inl (cI, 30, .inl t_f18)), (b 5, oX6 bs o_fieldo13 o_houseso14), (bs 0, .inl (cI, 287, .inl o_f0o15)), (bs 1, .inl (cI, 7, .inl o_f1o16)), (bs 2, .inl (cI, 7, .inl o_f2o17)), (bs 3, .inl (cJ, 7, .inr (.inl o_f3o18))), (bs 4, .inl (cI, 7, .inl o_f4o19)), (bs 5, .inl (cI, 6, .inl o_f5o20)), (bs 6, .inl (cI, 78, .inl o_f6o21)), (bs 7, .inl (cJ, 13, .inr (.inl o_f7o22))), (bs 8, .inl (cJ, 13, .inr (.inl o_f8o23))), (bs 9, .inl (cJ, 13, .inr (.inl o_f9o24))), (b 1, oX0 bt t_lines t_span t_rule t_odds t_wide t_high t_creeks t_houses t_widows t_acts), (bt 11, .inl (cI, 6, .inl t_f11)), (bt 12, .inl (cI, 7, .inl t_f12)), (bt 13, .inl (cI, 7, .inl t_f13)), (bt 14, .inl (cI, 7, .inl t_f14)), (bt 15, .inl (cI, 7, .inl t_f15)), (bt 16, .inl (cI, 7, .inl t_f16)), (bt 17, .inl (cI, 56, .inl t_f17)), (b 3, oX7 z0 p0 o_walkerso5 o_creekso6 o_widowo7 o_faceso8 o_turno9)] H := hP
  have hD : va_D A [(h0, oX9 b), (bt 10, .inl (cI, 12, .inl t_f10)), (bt 18, .inl (cI, 30, .inl t_f18)), (b 5, oX6 bs o_fieldo13 o_houseso14), (bs 0, .inl (cI, 287, .inl o_f0o15)), (bs 1, .inl (cI, 7, .inl o_f1o16)), (bs 2, .inl (cI, 7, .inl o_f2o17)), (bs 3, .inl (cJ, 7, .inr (.inl o_f3o18))), (bs 4, .inl (cI, 7, .inl o_f4o19)), (bs 5, .inl (cI, 6, .inl o_f5o20)), (bs 6, .inl (cI, 78, .inl o_f6o21)), (bs 7, .inl (cJ, 13, .inr (.inl o_f7o22))), (bs 8, .inl (cJ, 13, .inr (.inl o_f8o23))), (bs 9, .inl (cJ, 13, .inr (.inl o_f9o24))), (b 1, oX0 bt t_lines t_span t_rule t_odds t_wide t_high t_creeks t_houses t_widows t_acts), (bt 11, .inl (cI, 6, .inl t_f11)), (bt 12, .inl (cI, 7, .inl t_f12)), (bt 13, .inl (cI, 7, .inl t_f13)), (bt 14, .inl (cI, 7, .inl t_f14)), (bt 15, .inl (cI, 7, .inl t_f15)), (bt 16, .inl (cI, 7, .inl t_f16)), (bt 17, .inl (cI, 56, .inl t_f17)), (b 3, oX7 z0 p0 o_walkerso5 o_creekso6 o_widowo7 o_faceso8 o_turno9)] := hD
  obtain ⟨w25, w26, w27⟩ : 0 ≤ o_houseso14.toInt ∧ o_houseso14.toInt ≤ 6 ∧ ai o_f1o16 7 (-1) 40 := hw12
  exact hret _ _ _ _ (p0, o_walkerso5, o_creekso6, o_widowo7, o_faceso8, o_turno9, o_fieldo13, o_houseso14, o_f0o15, o_f1o16, o_f2o17, o_f3o18, o_f4o19, o_f5o20, o_f6o21, o_f7o22, o_f8o23, o_f9o24) (hP.sub (ws' := [(h0, oX9 b), (b 1, oX0 bt t_lines t_span t_rule t_odds t_wide t_high t_creeks t_houses t_widows t_acts), (bt 10, .inl (cI, 12, .inl t_f10)), (bt 11, .inl (cI, 6, .inl t_f11)), (bt 12, .inl (cI, 7, .inl t_f12)), (bt 13, .inl (cI, 7, .inl t_f13)), (bt 14, .inl (cI, 7, .inl t_f14)), (bt 15, .inl (cI, 7, .inl t_f15)), (bt 16, .inl (cI, 7, .inl t_f16)), (bt 17, .inl (cI, 56, .inl t_f17)), (bt 18, .inl (cI, 30, .inl t_f18)), (b 3, oX7 z0 p0 o_walkerso5 o_creekso6 o_widowo7 o_faceso8 o_turno9), (b 5, oX6 bs o_fieldo13 o_houseso14), (bs 0, .inl (cI, 287, .inl o_f0o15)), (bs 1, .inl (cI, 7, .inl o_f1o16)), (bs 2, .inl (cI, 7, .inl o_f2o17)), (bs 3, .inl (cJ, 7, .inr (.inl o_f3o18))), (bs 4, .inl (cI, 7, .inl o_f4o19)), (bs 5, .inl (cI, 6, .inl o_f5o20)), (bs 6, .inl (cI, 78, .inl o_f6o21)), (bs 7, .inl (cJ, 13, .inr (.inl o_f7o22))), (bs 8, .inl (cJ, 13, .inr (.inl o_f8o23))), (bs 9, .inl (cJ, 13, .inr (.inl o_f9o24)))]) [0, 14, 1, 15, 16, 17, 18, 19, 20, 21, 2, 22, 3, 4, 5, 6, 7, 8, 9, 10, 11, 12, 13] rfl) (hD.sub (ws' := [(h0, oX9 b), (b 1, oX0 bt t_lines t_span t_rule t_odds t_wide t_high t_creeks t_houses t_widows t_acts), (bt 10, .inl (cI, 12, .inl t_f10)), (bt 11, .inl (cI, 6, .inl t_f11)), (bt 12, .inl (cI, 7, .inl t_f12)), (bt 13, .inl (cI, 7, .inl t_f13)), (bt 14, .inl (cI, 7, .inl t_f14)), (bt 15, .inl (cI, 7, .inl t_f15)), (bt 16, .inl (cI, 7, .inl t_f16)), (bt 17, .inl (cI, 56, .inl t_f17)), (bt 18, .inl (cI, 30, .inl t_f18)), (b 3, oX7 z0 p0 o_walkerso5 o_creekso6 o_widowo7 o_faceso8 o_turno9), (b 5, oX6 bs o_fieldo13 o_houseso14), (bs 0, .inl (cI, 287, .inl o_f0o15)), (bs 1, .inl (cI, 7, .inl o_f1o16)), (bs 2, .inl (cI, 7, .inl o_f2o17)), (bs 3, .inl (cJ, 7, .inr (.inl o_f3o18))), (bs 4, .inl (cI, 7, .inl o_f4o19)), (bs 5, .inl (cI, 6, .inl o_f5o20)), (bs 6, .inl (cI, 78, .inl o_f6o21)), (bs 7, .inl (cJ, 13, .inr (.inl o_f7o22))), (bs 8, .inl (cJ, 13, .inr (.inl o_f8o23))), (bs 9, .inl (cJ, 13, .inr (.inl o_f9o24)))]) [0, 14, 1, 15, 16, 17, 18, 19, 20, 21, 2, 22, 3, 4, 5, 6, 7, 8, 9, 10, 11, 12, 13] rfl rfl) hS dX9_tellByLaw_34 (show 0 ≤ o_houseso14.toInt ∧ o_houseso14.toInt ≤ 6 ∧ ai o_f1o16 7 (-1) 40 from ⟨w25, w26, w27⟩)
set_option maxHeartbeats 4000000 in
set_option maxRecDepth 100000 in
theorem f_X9_tellInFog (l : Launch) (G : va_G) (cI cJ cZ cB cQ : ClassId) (sz : Nat) (h0 : Nat) (p0 : Int32) (b : Nat → Nat) (bt : Nat → Nat) (t_lines : Int32) (t_span : Int32) (t_rule : Int32) (t_odds : Int32) (t_wide : Int32) (t_high : Int32) (t_creeks : Int32) (t_houses : Int32) (t_widows : Int32) (t_acts : Int32) (t_f10 : Nat → Int32) (t_f11 : Nat → Int32) (t_f12 : Nat → Int32) (t_f13 : Nat → Int32) (t_f14 : Nat → Int32) (t_f15 : Nat → Int32) (t_f16 : Nat → Int32) (t_f17 : Nat → Int32) (t_f18 : Nat → Int32) (u_rule : Int32) (u_walkers : Int32) (u_creeks : Int64) (u_widow : Int32) (u_faces : Int32) (u_turn : Int32) (bs : Nat → Nat) (s_field : Int64) (s_houses : Int32) (s_f0 : Nat → Int32) (s_f1 : Nat → Int32) (s_f2 : Nat → Int32) (s_f3 : Nat → Int64) (s_f4 : Nat → Int32) (s_f5 : Nat → Int32) (s_f6 : Nat → Int32) (s_f7 : Nat → Int64) (s_f8 : Nat → Int64) (s_f9 : Nat → Int64) (hl_t_span : 0 ≤ t_span.toInt) (hh_t_span : t_span.toInt ≤ 12) (hl_t_rule : 0 ≤ t_rule.toInt) (hh_t_rule : t_rule.toInt ≤ 3) (hl_t_odds : 0 ≤ t_odds.toInt) (hh_t_odds : t_odds.toInt ≤ 10) (hl_t_wide : 0 ≤ t_wide.toInt) (hh_t_wide : t_wide.toInt ≤ 8) (hl_t_high : 0 ≤ t_high.toInt) (hh_t_high : t_high.toInt ≤ 8) (hl_t_creeks : 0 ≤ t_creeks.toInt) (hh_t_creeks : t_creeks.toInt ≤ 12) (hl_t_houses : 0 ≤ t_houses.toInt) (hh_t_houses : t_houses.toInt ≤ 6) (hl_t_widows : 0 ≤ t_widows.toInt) (hh_t_widows : t_widows.toInt ≤ 7) (hl_t_acts : 0 ≤ t_acts.toInt) (hh_t_acts : t_acts.toInt ≤ 30) (ha_t_f14 : ai t_f14 7 (-2147483648) 40) (ha_t_f16 : ai t_f16 7 (-2147483648) 8) (hl_s_houses : 0 ≤ s_houses.toInt) (hh_s_houses : s_houses.toInt ≤ 6) (ha_s_f1 : ai s_f1 7 (-1) 40) : CV l yX9_tellInFog (wl_ yX9_tellInFog cX9_tellInFog 2 none) ({ frames := 4, cells := 0, slots := 0, locals := 105 } : Room) G (TY cI cJ cZ cB cQ) [.ref h0, .int p0] [(h0, oX9 b), (b 1, oX0 bt t_lines t_span t_rule t_odds t_wide t_high t_creeks t_houses t_widows t_acts), (bt 10, .inl (cI, 12, .inl t_f10)), (bt 11, .inl (cI, 6, .inl t_f11)), (bt 12, .inl (cI, 7, .inl t_f12)), (bt 13, .inl (cI, 7, .inl t_f13)), (bt 14, .inl (cI, 7, .inl t_f14)), (bt 15, .inl (cI, 7, .inl t_f15)), (bt 16, .inl (cI, 7, .inl t_f16)), (bt 17, .inl (cI, 56, .inl t_f17)), (bt 18, .inl (cI, 30, .inl t_f18)), (b 3, oX7 z0 u_rule u_walkers u_creeks u_widow u_faces u_turn), (b 5, oX6 bs s_field s_houses), (bs 0, .inl (cI, 287, .inl s_f0)), (bs 1, .inl (cI, 7, .inl s_f1)), (bs 2, .inl (cI, 7, .inl s_f2)), (bs 3, .inl (cJ, 7, .inr (.inl s_f3))), (bs 4, .inl (cI, 7, .inl s_f4)), (bs 5, .inl (cI, 6, .inl s_f5)), (bs 6, .inl (cI, 78, .inl s_f6)), (bs 7, .inl (cJ, 13, .inr (.inl s_f7))), (bs 8, .inl (cJ, 13, .inr (.inl s_f8))), (bs 9, .inl (cJ, 13, .inr (.inl s_f9)))] sz (fun (u : Int32 × Int32 × Int64 × Int32 × Int32 × Int32 × Int64 × Int32 × (Nat → Int32) × (Nat → Int32) × (Nat → Int32) × (Nat → Int64) × (Nat → Int32) × (Nat → Int32) × (Nat → Int32) × (Nat → Int64) × (Nat → Int64) × (Nat → Int64)) => 0 ≤ u.2.2.2.2.2.2.2.1.toInt ∧ u.2.2.2.2.2.2.2.1.toInt ≤ 6 ∧ ai u.2.2.2.2.2.2.2.2.2.1 7 (-1) 40) (fun u : Int32 × Int32 × Int64 × Int32 × Int32 × Int32 × Int64 × Int32 × (Nat → Int32) × (Nat → Int32) × (Nat → Int32) × (Nat → Int64) × (Nat → Int32) × (Nat → Int32) × (Nat → Int32) × (Nat → Int64) × (Nat → Int64) × (Nat → Int64) => [(h0, oX9 b), (b 1, oX0 bt t_lines t_span t_rule t_odds t_wide t_high t_creeks t_houses t_widows t_acts), (bt 10, .inl (cI, 12, .inl t_f10)), (bt 11, .inl (cI, 6, .inl t_f11)), (bt 12, .inl (cI, 7, .inl t_f12)), (bt 13, .inl (cI, 7, .inl t_f13)), (bt 14, .inl (cI, 7, .inl t_f14)), (bt 15, .inl (cI, 7, .inl t_f15)), (bt 16, .inl (cI, 7, .inl t_f16)), (bt 17, .inl (cI, 56, .inl t_f17)), (bt 18, .inl (cI, 30, .inl t_f18)), (b 3, oX7 z0 u.1 u.2.1 u.2.2.1 u.2.2.2.1 u.2.2.2.2.1 u.2.2.2.2.2.1), (b 5, oX6 bs u.2.2.2.2.2.2.1 u.2.2.2.2.2.2.2.1), (bs 0, .inl (cI, 287, .inl u.2.2.2.2.2.2.2.2.1)), (bs 1, .inl (cI, 7, .inl u.2.2.2.2.2.2.2.2.2.1)), (bs 2, .inl (cI, 7, .inl u.2.2.2.2.2.2.2.2.2.2.1)), (bs 3, .inl (cJ, 7, .inr (.inl u.2.2.2.2.2.2.2.2.2.2.2.1))), (bs 4, .inl (cI, 7, .inl u.2.2.2.2.2.2.2.2.2.2.2.2.1)), (bs 5, .inl (cI, 6, .inl u.2.2.2.2.2.2.2.2.2.2.2.2.2.1)), (bs 6, .inl (cI, 78, .inl u.2.2.2.2.2.2.2.2.2.2.2.2.2.2.1)), (bs 7, .inl (cJ, 13, .inr (.inl u.2.2.2.2.2.2.2.2.2.2.2.2.2.2.2.1))), (bs 8, .inl (cJ, 13, .inr (.inl u.2.2.2.2.2.2.2.2.2.2.2.2.2.2.2.2.1))), (bs 9, .inl (cJ, 13, .inr (.inl u.2.2.2.2.2.2.2.2.2.2.2.2.2.2.2.2.2)))]) 0 0 := by
  refine CV.go (cc := cX9_tellInFog) (maxL := 2) (ret := none) (by decide) rfl (Nat.le_of_ble_eq_true rfl) ?_
  intro p e s m below meth c A ls Q hBd hret
  obtain ⟨hx, hb, hr, hml, hts, hown, hlk, hnm, hP, hK, hD, hA, hZ, hl⟩ := hBd
  have hown : s.vm.findClass RX9 = some m.cls := hown
  have hl : lv_has ls 2 [(0, .ref h0), (1, .int p0)] := hl
  have hS : va_S A s.heap s.heap [] := va_S.rf
  refine lv_aload_n hx hb dX9_tellInFog_0 rfl (lv_at hl 0 rfl) ?_
  refine va_get (D := G) (ci := 9) (v := .ref (b 3)) (C := RX9) (T := TX9) (N := 11) hx hb hts iG_X9 hown hK hP 0 rfl rfl 3 (by decide) (hts _ w_354) (fun _ h9 => h9) rfl dX9_tellInFog_1 ?_
  refine lv_aload_n hx hb dX9_tellInFog_4 rfl (lv_at hl 0 rfl) ?_
  refine va_get (D := G) (ci := 9) (v := .ref (b 1)) (C := RX9) (T := TX9) (N := 11) hx hb hts iG_X9 hown hK hP 0 rfl rfl 1 (by decide) (hts _ w_352) (fun _ h9 => h9) rfl dX9_tellInFog_5 ?_
  refine k_v (wc := [(b 3, oX7 z0 u_rule u_walkers u_creeks u_widow u_faces u_turn), (b 1, oX0 bt t_lines t_span t_rule t_odds t_wide t_high t_creeks t_houses t_widows t_acts), (bt 10, .inl (cI, 12, .inl t_f10)), (bt 18, .inl (cI, 30, .inl t_f18))]) (wr := [(h0, oX9 b), (bt 11, .inl (cI, 6, .inl t_f11)), (bt 12, .inl (cI, 7, .inl t_f12)), (bt 13, .inl (cI, 7, .inl t_f13)), (bt 14, .inl (cI, 7, .inl t_f14)), (bt 15, .inl (cI, 7, .inl t_f15)), (bt 16, .inl (cI, 7, .inl t_f16)), (bt 17, .inl (cI, 56, .inl t_f17)), (b 5, oX6 bs s_field s_houses), (bs 0, .inl (cI, 287, .inl s_f0)), (bs 1, .inl (cI, 7, .inl s_f1)), (bs 2, .inl (cI, 7, .inl s_f2)), (bs 3, .inl (cJ, 7, .inr (.inl s_f3))), (bs 4, .inl (cI, 7, .inl s_f4)), (bs 5, .inl (cI, 6, .inl s_f5)), (bs 6, .inl (cI, 78, .inl s_f6)), (bs 7, .inl (cJ, 13, .inr (.inl s_f7))), (bs 8, .inl (cJ, 13, .inr (.inl s_f8))), (bs 9, .inl (cJ, 13, .inr (.inl s_f9)))]) hP hD hS hA [11, 1, 2, 10] [0, 3, 4, 5, 6, 7, 8, 9, 12, 13, 14, 15, 16, 17, 18, 19, 20, 21, 22] rfl rfl rfl (by decide) (va_runVN (As := [.ref (b 1)]) (rest := []) ⟨hx, hb, hml, hown, hts⟩ (f_X7_asNow l G cI cJ cZ cB cQ _ (b 3) (b 1) u_rule u_walkers u_creeks u_widow u_faces u_turn bt t_lines t_span t_rule t_odds t_wide t_high t_creeks t_houses t_widows t_acts t_f10 t_f18 hl_t_span hh_t_span hl_t_rule hh_t_rule hl_t_odds hh_t_odds hl_t_wide hh_t_wide hl_t_high hh_t_high hl_t_creeks hh_t_creeks hl_t_houses hh_t_houses hl_t_widows hh_t_widows hl_t_acts hh_t_acts) ⟨va_cnB (host := "WidowRoads") 1 hts (gW w_576) rfl rfl rfl (nz_nw hZ nw_573 rfl) (hts _ w_5) hd_X7_asNow ⟨Nat.le_of_ble_eq_true rfl, Nat.le_of_ble_eq_true rfl⟩, (hts _ w_575), (hts _ wp_22)⟩ (mV hK hZ hP hD [11, 1, 2, 10] rfl rfl [.ref (b 1)] 11 7 rfl rfl) rfl rfl hl.1 rfl (lv_room (Nat.le_of_ble_eq_true rfl)) dX9_tellInFog_8 ⟨Nat.le_of_ble_eq_true rfl, Nat.le_of_ble_eq_true rfl⟩) (fun u2 H locs hw3 hP hD hS => ?_)
  obtain ⟨o_ruleo4, o_walkerso5, o_creekso6, o_widowo7, o_faceso8, o_turno9⟩ := u2
  try dsimp only at hw3
  have hP : va_P G vwCl [(h0, oX9 b), (bt 11, .inl (cI, 6, .inl t_f11)), (bt 12, .inl (cI, 7, .inl t_f12)), (bt 13, .inl (cI, 7, .inl t_f13)), (bt 14, .inl (cI, 7, .inl t_f14)), (bt 15, .inl (cI, 7, .inl t_f15)), (bt 16, .inl (cI, 7, .inl t_f16)), (bt 17, .inl (cI, 56, .inl t_f17)), (b 5, oX6 bs s_field s_houses), (bs 0, .inl (cI, 287, .inl s_f0)), (bs 1, .inl (cI, 7, .inl s_f1)), (bs 2, .inl (cI, 7, .inl s_f2)), (bs 3, .inl (cJ, 7, .inr (.inl s_f3))), (bs 4, .inl (cI, 7, .inl s_f4)), (bs 5, .inl (cI, 6, .inl s_f5)), (bs 6, .inl (cI, 78, .inl s_f6)), (bs 7, .inl (cJ, 13, .inr (.inl s_f7))), (bs 8, .inl (cJ, 13, .inr (.inl s_f8))), (bs 9, .inl (cJ, 13, .inr (.inl s_f9))), (b 3, oX7 z0 o_ruleo4 o_walkerso5 o_creekso6 o_widowo7 o_faceso8 o_turno9), (b 1, oX0 bt t_lines t_span t_rule t_odds t_wide t_high t_creeks t_houses t_widows t_acts), (bt 10, .inl (cI, 12, .inl t_f10)), (bt 18, .inl (cI, 30, .inl t_f18))] H := hP
  have hD : va_D A [(h0, oX9 b), (bt 11, .inl (cI, 6, .inl t_f11)), (bt 12, .inl (cI, 7, .inl t_f12)), (bt 13, .inl (cI, 7, .inl t_f13)), (bt 14, .inl (cI, 7, .inl t_f14)), (bt 15, .inl (cI, 7, .inl t_f15)), (bt 16, .inl (cI, 7, .inl t_f16)), (bt 17, .inl (cI, 56, .inl t_f17)), (b 5, oX6 bs s_field s_houses), (bs 0, .inl (cI, 287, .inl s_f0)), (bs 1, .inl (cI, 7, .inl s_f1)), (bs 2, .inl (cI, 7, .inl s_f2)), (bs 3, .inl (cJ, 7, .inr (.inl s_f3))), (bs 4, .inl (cI, 7, .inl s_f4)), (bs 5, .inl (cI, 6, .inl s_f5)), (bs 6, .inl (cI, 78, .inl s_f6)), (bs 7, .inl (cJ, 13, .inr (.inl s_f7))), (bs 8, .inl (cJ, 13, .inr (.inl s_f8))), (bs 9, .inl (cJ, 13, .inr (.inl s_f9))), (b 3, oX7 z0 o_ruleo4 o_walkerso5 o_creekso6 o_widowo7 o_faceso8 o_turno9), (b 1, oX0 bt t_lines t_span t_rule t_odds t_wide t_high t_creeks t_houses t_widows t_acts), (bt 10, .inl (cI, 12, .inl t_f10)), (bt 18, .inl (cI, 30, .inl t_f18))] := hD
  refine lv_aload_n hx hb dX9_tellInFog_11 rfl (lv_at hl 0 rfl) ?_
  refine va_get (D := G) (ci := 9) (v := .ref (b 3)) (C := RX9) (T := TX9) (N := 11) hx hb hts iG_X9 hown hK hP 0 rfl rfl 3 (by decide) (hts _ w_354) (fun _ h9 => h9) rfl dX9_tellInFog_12 ?_
  refine lv_dup hx hb dX9_tellInFog_15 rfl ?_
  refine va_getN (D := G) (ci := 7) (v := .int o_walkerso5) (C := RX7) (T := TX7) (N := 6) hx hb hts iG_X7 hown hK hP 19 rfl rfl 1 (by decide) (nz_use hZ nw_204 rfl) (fun _ h9 => h9) rfl dX9_tellInFog_16 ?_
  refine lv_iload_n hx hb dX9_tellInFog_19 rfl (lv_at hl 1 rfl) ?_
  refine lv_iconst (v := (-1)) hx hb dX9_tellInFog_20 (by decide) ?_
  refine lv_ixor hx hb dX9_tellInFog_21 ?_
  refine lv_topi (fun v10 ev10 => ?_)
  refine lv_iand hx hb dX9_tellInFog_22 ?_
  refine lv_topi (fun v11 ev11 => ?_)
  refine va_putN (D := G) (ci := 7) (v := .int v11) (ty := .int) (C := RX7) (T := TX7) (N := 6) hx hb hts iG_X7 tyX7 tyX7_ok nmX7 hown hK hP hD hS 19 rfl rfl 1 (by decide) (nz_use hZ nw_204 rfl) (fun _ h9 => h9) rfl (by decide +kernel) rfl rfl (Nat.le_of_ble_eq_true rfl) dX9_tellInFog_23 (fun H locs hP hD hS => ?_)
  have hP : va_P G vwCl [(h0, oX9 b), (bt 11, .inl (cI, 6, .inl t_f11)), (bt 12, .inl (cI, 7, .inl t_f12)), (bt 13, .inl (cI, 7, .inl t_f13)), (bt 14, .inl (cI, 7, .inl t_f14)), (bt 15, .inl (cI, 7, .inl t_f15)), (bt 16, .inl (cI, 7, .inl t_f16)), (bt 17, .inl (cI, 56, .inl t_f17)), (b 5, oX6 bs s_field s_houses), (bs 0, .inl (cI, 287, .inl s_f0)), (bs 1, .inl (cI, 7, .inl s_f1)), (bs 2, .inl (cI, 7, .inl s_f2)), (bs 3, .inl (cJ, 7, .inr (.inl s_f3))), (bs 4, .inl (cI, 7, .inl s_f4)), (bs 5, .inl (cI, 6, .inl s_f5)), (bs 6, .inl (cI, 78, .inl s_f6)), (bs 7, .inl (cJ, 13, .inr (.inl s_f7))), (bs 8, .inl (cJ, 13, .inr (.inl s_f8))), (bs 9, .inl (cJ, 13, .inr (.inl s_f9))), (b 3, oX7 z0 o_ruleo4 v11 o_creekso6 o_widowo7 o_faceso8 o_turno9), (b 1, oX0 bt t_lines t_span t_rule t_odds t_wide t_high t_creeks t_houses t_widows t_acts), (bt 10, .inl (cI, 12, .inl t_f10)), (bt 18, .inl (cI, 30, .inl t_f18))] H := hP
  have hD : va_D A [(h0, oX9 b), (bt 11, .inl (cI, 6, .inl t_f11)), (bt 12, .inl (cI, 7, .inl t_f12)), (bt 13, .inl (cI, 7, .inl t_f13)), (bt 14, .inl (cI, 7, .inl t_f14)), (bt 15, .inl (cI, 7, .inl t_f15)), (bt 16, .inl (cI, 7, .inl t_f16)), (bt 17, .inl (cI, 56, .inl t_f17)), (b 5, oX6 bs s_field s_houses), (bs 0, .inl (cI, 287, .inl s_f0)), (bs 1, .inl (cI, 7, .inl s_f1)), (bs 2, .inl (cI, 7, .inl s_f2)), (bs 3, .inl (cJ, 7, .inr (.inl s_f3))), (bs 4, .inl (cI, 7, .inl s_f4)), (bs 5, .inl (cI, 6, .inl s_f5)), (bs 6, .inl (cI, 78, .inl s_f6)), (bs 7, .inl (cJ, 13, .inr (.inl s_f7))), (bs 8, .inl (cJ, 13, .inr (.inl s_f8))), (bs 9, .inl (cJ, 13, .inr (.inl s_f9))), (b 3, oX7 z0 o_ruleo4 v11 o_creekso6 o_widowo7 o_faceso8 o_turno9), (b 1, oX0 bt t_lines t_span t_rule t_odds t_wide t_high t_creeks t_houses t_widows t_acts), (bt 10, .inl (cI, 12, .inl t_f10)), (bt 18, .inl (cI, 30, .inl t_f18))] := hD
  refine lv_aload_n hx hb dX9_tellInFog_26 rfl (lv_at hl 0 rfl) ?_
  refine va_get (D := G) (ci := 9) (v := .ref (b 5)) (C := RX9) (T := TX9) (N := 11) hx hb hts iG_X9 hown hK hP 0 rfl rfl 5 (by decide) (hts _ w_356) (fun _ h9 => h9) rfl dX9_tellInFog_27 ?_
  refine lv_aload_n hx hb dX9_tellInFog_30 rfl (lv_at hl 0 rfl) ?_
  refine va_get (D := G) (ci := 9) (v := .ref (b 1)) (C := RX9) (T := TX9) (N := 11) hx hb hts iG_X9 hown hK hP 0 rfl rfl 1 (by decide) (hts _ w_352) (fun _ h9 => h9) rfl dX9_tellInFog_31 ?_
  refine lv_aload_n hx hb dX9_tellInFog_34 rfl (lv_at hl 0 rfl) ?_
  refine va_get (D := G) (ci := 9) (v := .ref (b 3)) (C := RX9) (T := TX9) (N := 11) hx hb hts iG_X9 hown hK hP 0 rfl rfl 3 (by decide) (hts _ w_354) (fun _ h9 => h9) rfl dX9_tellInFog_35 ?_
  refine k_v (wc := [(b 5, oX6 bs s_field s_houses), (bs 0, .inl (cI, 287, .inl s_f0)), (bs 1, .inl (cI, 7, .inl s_f1)), (bs 2, .inl (cI, 7, .inl s_f2)), (bs 3, .inl (cJ, 7, .inr (.inl s_f3))), (bs 4, .inl (cI, 7, .inl s_f4)), (bs 5, .inl (cI, 6, .inl s_f5)), (bs 6, .inl (cI, 78, .inl s_f6)), (bs 7, .inl (cJ, 13, .inr (.inl s_f7))), (bs 8, .inl (cJ, 13, .inr (.inl s_f8))), (bs 9, .inl (cJ, 13, .inr (.inl s_f9))), (b 1, oX0 bt t_lines t_span t_rule t_odds t_wide t_high t_creeks t_houses t_widows t_acts), (bt 11, .inl (cI, 6, .inl t_f11)), (bt 12, .inl (cI, 7, .inl t_f12)), (bt 13, .inl (cI, 7, .inl t_f13)), (bt 14, .inl (cI, 7, .inl t_f14)), (bt 15, .inl (cI, 7, .inl t_f15)), (bt 16, .inl (cI, 7, .inl t_f16)), (bt 17, .inl (cI, 56, .inl t_f17)), (b 3, oX7 z0 o_ruleo4 v11 o_creekso6 o_widowo7 o_faceso8 o_turno9)]) (wr := [(h0, oX9 b), (bt 10, .inl (cI, 12, .inl t_f10)), (bt 18, .inl (cI, 30, .inl t_f18))]) hP hD hS hA [8, 9, 10, 11, 12, 13, 14, 15, 16, 17, 18, 20, 1, 2, 3, 4, 5, 6, 7, 19] [0, 21, 22] rfl rfl rfl (by decide) (va_runVN (As := [.ref (b 1), .ref (b 3)]) (rest := []) ⟨hx, hb, hml, hown, hts⟩ (f_X6_tell l G cI cJ cZ cB cQ _ (b 5) (b 1) (b 3) bs s_field s_houses s_f0 s_f1 s_f2 s_f3 s_f4 s_f5 s_f6 s_f7 s_f8 s_f9 bt t_lines t_span t_rule t_odds t_wide t_high t_creeks t_houses t_widows t_acts t_f11 t_f12 t_f13 t_f14 t_f15 t_f16 t_f17 o_ruleo4 v11 o_creekso6 o_widowo7 o_faceso8 o_turno9 hl_s_houses hh_s_houses ha_s_f1 hl_t_span hh_t_span hl_t_rule hh_t_rule hl_t_odds hh_t_odds hl_t_wide hh_t_wide hl_t_high hh_t_high hl_t_creeks hh_t_creeks hl_t_houses hh_t_houses hl_t_widows hh_t_widows hl_t_acts hh_t_acts ha_t_f14 ha_t_f16) ⟨va_cnB (host := "WidowRoads") 2 hts (gW w_585) rfl rfl rfl (nz_nw hZ nw_582 rfl) (hts _ w_6) hd_X6_tell ⟨Nat.le_of_ble_eq_true rfl, Nat.le_of_ble_eq_true rfl⟩, (hts _ w_584), (hts _ wp_24)⟩ (mV hK hZ hP hD [8, 9, 10, 11, 12, 13, 14, 15, 16, 17, 18, 20, 1, 2, 3, 4, 5, 6, 7, 19] rfl rfl [.ref (b 1), .ref (b 3)] 8 6 rfl rfl) rfl rfl hl.1 rfl (lv_room (Nat.le_of_ble_eq_true rfl)) dX9_tellInFog_38 ⟨Nat.le_of_ble_eq_true rfl, Nat.le_of_ble_eq_true rfl⟩) (fun u13 H locs hw14 hP hD hS => ?_)
  obtain ⟨o_fieldo15, o_houseso16, o_f0o17, o_f1o18, o_f2o19, o_f3o20, o_f4o21, o_f5o22, o_f6o23, o_f7o24, o_f8o25, o_f9o26⟩ := u13
  try dsimp only at hw14
  have hP : va_P G vwCl [(h0, oX9 b), (bt 10, .inl (cI, 12, .inl t_f10)), (bt 18, .inl (cI, 30, .inl t_f18)), (b 5, oX6 bs o_fieldo15 o_houseso16), (bs 0, .inl (cI, 287, .inl o_f0o17)), (bs 1, .inl (cI, 7, .inl o_f1o18)), (bs 2, .inl (cI, 7, .inl o_f2o19)), (bs 3, .inl (cJ, 7, .inr (.inl o_f3o20))), (bs 4, .inl (cI, 7, .inl o_f4o21)), (bs 5, .inl (cI, 6, .inl o_f5o22)), (bs 6, .inl (cI, 78, .inl o_f6o23)), (bs 7, .inl (cJ, 13, .inr (.inl o_f7o24))), (bs 8, .inl (cJ, 13, .inr (.inl o_f8o25))), (bs 9, .inl (cJ, 13, .inr (.inl o_f9o26))), (b 1, oX0 bt t_lines t_span t_rule t_odds t_wide t_high t_creeks t_houses t_widows t_acts), (bt 11, .inl (cI, 6, .inl t_f11)), (bt 12, .inl (cI, 7, .inl t_f12)), (bt 13, .inl (cI, 7, .inl t_f13)), (bt 14, .inl (cI, 7, .inl t_f14)), (bt 15, .inl (cI, 7, .inl t_f15)), (bt 16, .inl (cI, 7, .inl t_f16)), (bt 17, .inl (cI, 56, .inl t_f17)), (b 3, oX7 z0 o_ruleo4 v11 o_creekso6 o_widowo7 o_faceso8 o_turno9)] H := hP
  have hD : va_D A [(h0, oX9 b), (bt 10, .inl (cI, 12, .inl t_f10)), (bt 18, .inl (cI, 30, .inl t_f18)), (b 5, oX6 bs o_fieldo15 o_houseso16), (bs 0, .inl (cI, 287, .inl o_f0o17)), (bs 1, .inl (cI, 7, .inl o_f1o18)), (bs 2, .inl (cI, 7, .inl o_f2o19)), (bs 3, .inl (cJ, 7, .inr (.inl o_f3o20))), (bs 4, .inl (cI, 7, .inl o_f4o21)), (bs 5, .inl (cI, 6, .inl o_f5o22)), (bs 6, .inl (cI, 78, .inl o_f6o23)), (bs 7, .inl (cJ, 13, .inr (.inl o_f7o24))), (bs 8, .inl (cJ, 13, .inr (.inl o_f8o25))), (bs 9, .inl (cJ, 13, .inr (.inl o_f9o26))), (b 1, oX0 bt t_lines t_span t_rule t_odds t_wide t_high t_creeks t_houses t_widows t_acts), (bt 11, .inl (cI, 6, .inl t_f11)), (bt 12, .inl (cI, 7, .inl t_f12)), (bt 13, .inl (cI, 7, .inl t_f13)), (bt 14, .inl (cI, 7, .inl t_f14)), (bt 15, .inl (cI, 7, .inl t_f15)), (bt 16, .inl (cI, 7, .inl t_f16)), (bt 17, .inl (cI, 56, .inl t_f17)), (b 3, oX7 z0 o_ruleo4 v11 o_creekso6 o_widowo7 o_faceso8 o_turno9)] := hD
  obtain ⟨w27, w28, w29⟩ : 0 ≤ o_houseso16.toInt ∧ o_houseso16.toInt ≤ 6 ∧ ai o_f1o18 7 (-1) 40 := hw14
  exact hret _ _ _ _ (o_ruleo4, v11, o_creekso6, o_widowo7, o_faceso8, o_turno9, o_fieldo15, o_houseso16, o_f0o17, o_f1o18, o_f2o19, o_f3o20, o_f4o21, o_f5o22, o_f6o23, o_f7o24, o_f8o25, o_f9o26) (hP.sub (ws' := [(h0, oX9 b), (b 1, oX0 bt t_lines t_span t_rule t_odds t_wide t_high t_creeks t_houses t_widows t_acts), (bt 10, .inl (cI, 12, .inl t_f10)), (bt 11, .inl (cI, 6, .inl t_f11)), (bt 12, .inl (cI, 7, .inl t_f12)), (bt 13, .inl (cI, 7, .inl t_f13)), (bt 14, .inl (cI, 7, .inl t_f14)), (bt 15, .inl (cI, 7, .inl t_f15)), (bt 16, .inl (cI, 7, .inl t_f16)), (bt 17, .inl (cI, 56, .inl t_f17)), (bt 18, .inl (cI, 30, .inl t_f18)), (b 3, oX7 z0 o_ruleo4 v11 o_creekso6 o_widowo7 o_faceso8 o_turno9), (b 5, oX6 bs o_fieldo15 o_houseso16), (bs 0, .inl (cI, 287, .inl o_f0o17)), (bs 1, .inl (cI, 7, .inl o_f1o18)), (bs 2, .inl (cI, 7, .inl o_f2o19)), (bs 3, .inl (cJ, 7, .inr (.inl o_f3o20))), (bs 4, .inl (cI, 7, .inl o_f4o21)), (bs 5, .inl (cI, 6, .inl o_f5o22)), (bs 6, .inl (cI, 78, .inl o_f6o23)), (bs 7, .inl (cJ, 13, .inr (.inl o_f7o24))), (bs 8, .inl (cJ, 13, .inr (.inl o_f8o25))), (bs 9, .inl (cJ, 13, .inr (.inl o_f9o26)))]) [0, 14, 1, 15, 16, 17, 18, 19, 20, 21, 2, 22, 3, 4, 5, 6, 7, 8, 9, 10, 11, 12, 13] rfl) (hD.sub (ws' := [(h0, oX9 b), (b 1, oX0 bt t_lines t_span t_rule t_odds t_wide t_high t_creeks t_houses t_widows t_acts), (bt 10, .inl (cI, 12, .inl t_f10)), (bt 11, .inl (cI, 6, .inl t_f11)), (bt 12, .inl (cI, 7, .inl t_f12)), (bt 13, .inl (cI, 7, .inl t_f13)), (bt 14, .inl (cI, 7, .inl t_f14)), (bt 15, .inl (cI, 7, .inl t_f15)), (bt 16, .inl (cI, 7, .inl t_f16)), (bt 17, .inl (cI, 56, .inl t_f17)), (bt 18, .inl (cI, 30, .inl t_f18)), (b 3, oX7 z0 o_ruleo4 v11 o_creekso6 o_widowo7 o_faceso8 o_turno9), (b 5, oX6 bs o_fieldo15 o_houseso16), (bs 0, .inl (cI, 287, .inl o_f0o17)), (bs 1, .inl (cI, 7, .inl o_f1o18)), (bs 2, .inl (cI, 7, .inl o_f2o19)), (bs 3, .inl (cJ, 7, .inr (.inl o_f3o20))), (bs 4, .inl (cI, 7, .inl o_f4o21)), (bs 5, .inl (cI, 6, .inl o_f5o22)), (bs 6, .inl (cI, 78, .inl o_f6o23)), (bs 7, .inl (cJ, 13, .inr (.inl o_f7o24))), (bs 8, .inl (cJ, 13, .inr (.inl o_f8o25))), (bs 9, .inl (cJ, 13, .inr (.inl o_f9o26)))]) [0, 14, 1, 15, 16, 17, 18, 19, 20, 21, 2, 22, 3, 4, 5, 6, 7, 8, 9, 10, 11, 12, 13] rfl rfl) hS dX9_tellInFog_41 (show 0 ≤ o_houseso16.toInt ∧ o_houseso16.toInt ≤ 6 ∧ ai o_f1o18 7 (-1) 40 from ⟨w27, w28, w29⟩)
set_option maxHeartbeats 4000000 in
set_option maxRecDepth 100000 in
theorem f_X9_fogDrawn (l : Launch) (G : va_G) (cI cJ cZ cB cQ : ClassId) (sz : Nat) (h0 : Nat) (p0 : Int32) (b : Nat → Nat) (bt : Nat → Nat) (t_lines : Int32) (t_span : Int32) (t_rule : Int32) (t_odds : Int32) (t_wide : Int32) (t_high : Int32) (t_creeks : Int32) (t_houses : Int32) (t_widows : Int32) (t_acts : Int32) (hl_t_span : 0 ≤ t_span.toInt) (hh_t_span : t_span.toInt ≤ 12) (hl_t_rule : 0 ≤ t_rule.toInt) (hh_t_rule : t_rule.toInt ≤ 3) (hl_t_odds : 0 ≤ t_odds.toInt) (hh_t_odds : t_odds.toInt ≤ 10) (hl_t_wide : 0 ≤ t_wide.toInt) (hh_t_wide : t_wide.toInt ≤ 8) (hl_t_high : 0 ≤ t_high.toInt) (hh_t_high : t_high.toInt ≤ 8) (hl_t_creeks : 0 ≤ t_creeks.toInt) (hh_t_creeks : t_creeks.toInt ≤ 12) (hl_t_houses : 0 ≤ t_houses.toInt) (hh_t_houses : t_houses.toInt ≤ 6) (hl_t_widows : 0 ≤ t_widows.toInt) (hh_t_widows : t_widows.toInt ≤ 7) (hl_t_acts : 0 ≤ t_acts.toInt) (hh_t_acts : t_acts.toInt ≤ 30) : CI l yX9_fogDrawn (wl_ yX9_fogDrawn cX9_fogDrawn 6 (some .int)) ({ frames := 1, cells := 0, slots := 0, locals := 20 } : Room) G (TY cI cJ cZ cB cQ) [.ref h0, .int p0] [(h0, oX9 b), (b 1, oX0 bt t_lines t_span t_rule t_odds t_wide t_high t_creeks t_houses t_widows t_acts)] sz (fun (r : Int32) (u : Unit) => True) (fun _ : Unit => [(h0, oX9 b), (b 1, oX0 bt t_lines t_span t_rule t_odds t_wide t_high t_creeks t_houses t_widows t_acts)]) 0 0 := by
  refine CI.go (cc := cX9_fogDrawn) (maxL := 6) (ret := (some .int)) (by decide) rfl (Nat.le_of_ble_eq_true rfl) ?_
  intro p e s m below meth c A ls Q hBd hret
  obtain ⟨hx, hb, hr, hml, hts, hown, hlk, hnm, hP, hK, hD, hA, hZ, hl⟩ := hBd
  have hown : s.vm.findClass RX9 = some m.cls := hown
  have hl : lv_has ls 6 [(0, .ref h0), (1, .int p0)] := hl
  have hS : va_S A s.heap s.heap [] := va_S.rf
  refine lv_iload_n hx hb dX9_fogDrawn_0 rfl (lv_at hl 1 rfl) ?_
  obtain ⟨v1, ev1⟩ : ∃ y : Int64, p0.toInt64 = y := ⟨_, rfl⟩
  have tv1 : v1.toInt = p0.toInt := ti_wide rfl ev1
  refine lv_i2l (v := v1) hx hb dX9_fogDrawn_1 ev1 ?_
  refine lv_lstore_n (lv' := [(2, .long v1), (0, .ref h0), (1, .int p0)]) hx hb dX9_fogDrawn_2 rfl hl (by decide) rfl (fun ls hl => ?_)
  refine lv_iconst (v := 0) hx hb dX9_fogDrawn_3 (by decide) ?_
  refine lv_istore (lv' := [(4, .int 0), (2, .long v1), (0, .ref h0), (1, .int p0)]) hx hb dX9_fogDrawn_4 hl (by decide) rfl (fun ls hl => ?_)
  refine lv_iconst (v := 0) hx hb dX9_fogDrawn_6 (by decide) ?_
  refine lv_istore (lv' := [(5, .int 0), (4, .int 0), (2, .long v1), (0, .ref h0), (1, .int p0)]) hx hb dX9_fogDrawn_7 hl (by decide) rfl (fun ls hl => ?_)
  have lp2 : ∀ (n3 : Nat) (x4 : Int32) (x5 : Int32) (y6 : Int64), 0 ≤ x5.toInt → x5.toInt ≤ 7 → 7 - x5.toInt < (n3 : Int) → ∀ (H : Heap) (locs : List Loc), va_P G vwCl [(h0, oX9 b), (b 1, oX0 bt t_lines t_span t_rule t_odds t_wide t_high t_creeks t_houses t_widows t_acts)] H → va_D A [(h0, oX9 b), (b 1, oX0 bt t_lines t_span t_rule t_odds t_wide t_high t_creeks t_houses t_widows t_acts)] → va_S A s.heap H locs → ∀ (ls : Array Slot), lv_has ls 6 [(5, .int x5), (4, .int x4), (2, .long y6), (0, .ref h0), (1, .int p0)] → W p l e ({ frames := 1, cells := 0, slots := 0, locals := 20 } : Room) s m ([.ref h0, .int p0] : List Value).toArray below meth c H locs 0 0 Q (F0 m 9 ls []) := by
    intro n3
    induction n3 with
    | zero =>
      intro x4 x5 y6 k7 k8 mm10
      exact absurd mm10 (by have q9 := fb_rng x5; omega)
    | succ n3 ih9 =>
      intro x4 x5 y6 k7 k8 mm10 H locs hP hD hS ls hl
      refine lv_iload hx hb dX9_fogDrawn_9 (lv_at hl 0 rfl) ?_
      refine lv_aload_n hx hb dX9_fogDrawn_11 rfl (lv_at hl 3 rfl) ?_
      refine va_get (D := G) (ci := 9) (v := .ref (b 1)) (C := RX9) (T := TX9) (N := 11) hx hb hts iG_X9 hown hK hP 0 rfl rfl 1 (by decide) (hts _ w_352) (fun _ h9 => h9) rfl dX9_fogDrawn_12 ?_
      refine va_getN (D := G) (ci := 0) (v := .int t_widows) (C := RX0) (T := TX0) (N := 19) hx hb hts iG_X0 hown hK hP 1 rfl rfl 8 (by decide) (nz_use hZ nw_88 rfl) (fun _ h9 => h9) rfl dX9_fogDrawn_15 ?_
      refine lv_icmp_ge (tgt := 78) hx hb dX9_fogDrawn_18 (by decide) (fun c11 => ?_) (fun c11 => ?_)
      · have c11 := i_le rfl rfl c11
        refine lv_iload hx hb dX9_fogDrawn_78 (lv_at hl 1 rfl) ?_
        exact hret _ _ _ _ x4 () hP hD hS dX9_fogDrawn_80 trivial
      · have c11 := i_nle rfl rfl c11
        refine lv_ldc2 (v := 1103515245) hx hb hown (hts _ w_1125) dX9_fogDrawn_21 ?_
        refine lv_lload_n hx hb dX9_fogDrawn_24 rfl (lv_at hl 2 rfl) ?_
        refine lv_lmul hx hb dX9_fogDrawn_25 ?_
        refine lv_topl (fun v12 ev12 => ?_)
        refine lv_ldc2 (v := 12345) hx hb hown (hts _ w_1126) dX9_fogDrawn_26 ?_
        refine lv_ladd hx hb dX9_fogDrawn_29 ?_
        refine lv_topl (fun v13 ev13 => ?_)
        refine lv_ldc2 (v := 2147483647) hx hb hown (hts _ w_1127) dX9_fogDrawn_30 ?_
        refine lv_land hx hb dX9_fogDrawn_33 ?_
        refine lv_topl (fun v14 ev14 => ?_)
        refine lv_lstore_n (lv' := [(2, .long v14), (5, .int x5), (4, .int x4), (0, .ref h0), (1, .int p0)]) hx hb dX9_fogDrawn_34 rfl hl (by decide) rfl (fun ls hl => ?_)
        refine lv_iload hx hb dX9_fogDrawn_35 (lv_at hl 2 rfl) ?_
        refine lv_lload_n hx hb dX9_fogDrawn_37 rfl (lv_at hl 0 rfl) ?_
        refine lv_ldc2 (v := 65536) hx hb hown (hts _ w_1128) dX9_fogDrawn_38 ?_
        refine lv_ldiv hx hb dX9_fogDrawn_41 (by decide) ?_
        refine lv_topl (fun v15 ev15 => ?_)
        refine lv_ldc2 (v := 10) hx hb hown (hts _ w_1129) dX9_fogDrawn_42 ?_
        refine lv_lrem hx hb dX9_fogDrawn_45 (by decide) ?_
        refine lv_topl (fun v16 ev16 => ?_)
        refine lv_aload_n hx hb dX9_fogDrawn_46 rfl (lv_at hl 3 rfl) ?_
        refine va_get (D := G) (ci := 9) (v := .ref (b 1)) (C := RX9) (T := TX9) (N := 11) hx hb hts iG_X9 hown hK hP 0 rfl rfl 1 (by decide) (hts _ w_352) (fun _ h9 => h9) rfl dX9_fogDrawn_47 ?_
        refine va_getN (D := G) (ci := 0) (v := .int t_odds) (C := RX0) (T := TX0) (N := 19) hx hb hts iG_X0 hown hK hP 1 rfl rfl 3 (by decide) (nz_use hZ nw_70 rfl) (fun _ h9 => h9) rfl dX9_fogDrawn_50 ?_
        obtain ⟨v17, ev17⟩ : ∃ y : Int64, t_odds.toInt64 = y := ⟨_, rfl⟩
        have tv17 : v17.toInt = t_odds.toInt := ti_wide rfl ev17
        refine lv_i2l (v := v17) hx hb dX9_fogDrawn_53 ev17 ?_
        refine W.lcmp hx hb dX9_fogDrawn_54 ?_
        refine lv_if_ge (tgt := 62) hx hb dX9_fogDrawn_55 (by decide) (fun c18 => ?_) (fun c18 => ?_)
        · have c18 := c_ge rfl tv17 c18
          refine lv_iconst (v := 0) hx hb dX9_fogDrawn_62 (by decide) ?_
          refine k_i (wc := []) (wr := [(h0, oX9 b), (b 1, oX0 bt t_lines t_span t_rule t_odds t_wide t_high t_creeks t_houses t_widows t_acts)]) hP hD hS hA [] [0, 1] rfl rfl rfl (by decide) (va_runS (As := [.int 0]) (rest := [.int x4]) ⟨hx, hb, hml, hown, hts⟩ (f_X9_oneIf l G cI cJ cZ cB cQ _ 0) (va_cwS 1 hts (gS w_661 w_662 w_1 w_663) rfl rfl rfl hd_X9_oneIf ⟨Nat.le_of_ble_eq_true rfl, Nat.le_of_ble_eq_true rfl⟩) (mS hK hZ hP hD [] rfl rfl [.int 0]) rfl rfl hl.1 rfl (lv_room (Nat.le_of_ble_eq_true rfl)) dX9_fogDrawn_63 ⟨Nat.le_of_ble_eq_true rfl, Nat.le_of_ble_eq_true rfl⟩) (fun r19 u20 H locs hw21 hP hD hS => ?_)
          try dsimp only at hw21
          have hP : va_P G vwCl [(h0, oX9 b), (b 1, oX0 bt t_lines t_span t_rule t_odds t_wide t_high t_creeks t_houses t_widows t_acts)] H := hP
          have hD : va_D A [(h0, oX9 b), (b 1, oX0 bt t_lines t_span t_rule t_odds t_wide t_high t_creeks t_houses t_widows t_acts)] := hD
          obtain ⟨w22, w23⟩ : 0 ≤ r19.toInt ∧ r19.toInt ≤ 1 := hw21
          refine lv_iload hx hb dX9_fogDrawn_66 (lv_at hl 1 rfl) ?_
          refine lv_ishl hx hb dX9_fogDrawn_68 ?_
          refine lv_topi (fun v24 ev24 => ?_)
          refine lv_ior hx hb dX9_fogDrawn_69 ?_
          refine lv_topi (fun v25 ev25 => ?_)
          refine lv_istore (lv' := [(4, .int v25), (2, .long v14), (5, .int x5), (0, .ref h0), (1, .int p0)]) hx hb dX9_fogDrawn_70 hl (by decide) rfl (fun ls hl => ?_)
          obtain ⟨v26, ev26⟩ : ∃ y : Int32, y = x5 + 1 := ⟨_, rfl⟩
          have tv26 : v26.toInt = x5.toInt + 1 := ti_add rfl ki_1 ev26 (by omega) (by omega)
          refine lv_iinc (v := v26) (lv' := [(5, .int v26), (4, .int v25), (2, .long v14), (0, .ref h0), (1, .int p0)]) hx hb dX9_fogDrawn_72 hl (k := 2) rfl (by rw [ev26]; rfl) (by decide) rfl (fun ls hl => ?_)
          refine lv_goto (tgt := 9) hx hb dX9_fogDrawn_75 (by decide) ?_
          exact ih9 v25 v26 v14 (by omega) (by omega) (by omega) _ _ hP hD hS ls (lv_sub hl [0, 1, 2, 3, 4] rfl)
        · have c18 := c_nge rfl tv17 c18
          refine lv_iconst (v := 1) hx hb dX9_fogDrawn_58 (by decide) ?_
          refine lv_goto (tgt := 63) hx hb dX9_fogDrawn_59 (by decide) ?_
          refine k_i (wc := []) (wr := [(h0, oX9 b), (b 1, oX0 bt t_lines t_span t_rule t_odds t_wide t_high t_creeks t_houses t_widows t_acts)]) hP hD hS hA [] [0, 1] rfl rfl rfl (by decide) (va_runS (As := [.int 1]) (rest := [.int x4]) ⟨hx, hb, hml, hown, hts⟩ (f_X9_oneIf l G cI cJ cZ cB cQ _ 1) (va_cwS 1 hts (gS w_661 w_662 w_1 w_663) rfl rfl rfl hd_X9_oneIf ⟨Nat.le_of_ble_eq_true rfl, Nat.le_of_ble_eq_true rfl⟩) (mS hK hZ hP hD [] rfl rfl [.int 1]) rfl rfl hl.1 rfl (lv_room (Nat.le_of_ble_eq_true rfl)) dX9_fogDrawn_63 ⟨Nat.le_of_ble_eq_true rfl, Nat.le_of_ble_eq_true rfl⟩) (fun r27 u28 H locs hw29 hP hD hS => ?_)
          try dsimp only at hw29
          have hP : va_P G vwCl [(h0, oX9 b), (b 1, oX0 bt t_lines t_span t_rule t_odds t_wide t_high t_creeks t_houses t_widows t_acts)] H := hP
          have hD : va_D A [(h0, oX9 b), (b 1, oX0 bt t_lines t_span t_rule t_odds t_wide t_high t_creeks t_houses t_widows t_acts)] := hD
          obtain ⟨w30, w31⟩ : 0 ≤ r27.toInt ∧ r27.toInt ≤ 1 := hw29
          refine lv_iload hx hb dX9_fogDrawn_66 (lv_at hl 1 rfl) ?_
          refine lv_ishl hx hb dX9_fogDrawn_68 ?_
          refine lv_topi (fun v32 ev32 => ?_)
          refine lv_ior hx hb dX9_fogDrawn_69 ?_
          refine lv_topi (fun v33 ev33 => ?_)
          refine lv_istore (lv' := [(4, .int v33), (2, .long v14), (5, .int x5), (0, .ref h0), (1, .int p0)]) hx hb dX9_fogDrawn_70 hl (by decide) rfl (fun ls hl => ?_)
          obtain ⟨v34, ev34⟩ : ∃ y : Int32, y = x5 + 1 := ⟨_, rfl⟩
          have tv34 : v34.toInt = x5.toInt + 1 := ti_add rfl ki_1 ev34 (by omega) (by omega)
          refine lv_iinc (v := v34) (lv' := [(5, .int v34), (4, .int v33), (2, .long v14), (0, .ref h0), (1, .int p0)]) hx hb dX9_fogDrawn_72 hl (k := 2) rfl (by rw [ev34]; rfl) (by decide) rfl (fun ls hl => ?_)
          refine lv_goto (tgt := 9) hx hb dX9_fogDrawn_75 (by decide) ?_
          exact ih9 v33 v34 v14 (by omega) (by omega) (by omega) _ _ hP hD hS ls (lv_sub hl [0, 1, 2, 3, 4] rfl)
  exact lp2 8 0 0 v1 (by rw [ki_0]; decide) (by rw [ki_0]; decide) (by rw [ki_0]; decide) _ _ hP hD hS ls (lv_sub hl [0, 1, 2, 3, 4] rfl)
set_option maxHeartbeats 4000000 in
set_option maxRecDepth 100000 in
theorem f_X9_gain (l : Launch) (G : va_G) (cI cJ cZ cB cQ : ClassId) (sz : Nat) (h0 : Nat) (p0 : Int32) (p1 : Int32) (p2 : Int32) (p3 : Int32) (b : Nat → Nat) (bt : Nat → Nat) (t_lines : Int32) (t_span : Int32) (t_rule : Int32) (t_odds : Int32) (t_wide : Int32) (t_high : Int32) (t_creeks : Int32) (t_houses : Int32) (t_widows : Int32) (t_acts : Int32) (t_f10 : Nat → Int32) (t_f11 : Nat → Int32) (t_f12 : Nat → Int32) (t_f13 : Nat → Int32) (t_f14 : Nat → Int32) (t_f15 : Nat → Int32) (t_f16 : Nat → Int32) (t_f17 : Nat → Int32) (t_f18 : Nat → Int32) (u_rule : Int32) (u_walkers : Int32) (u_creeks : Int64) (u_widow : Int32) (u_faces : Int32) (u_turn : Int32) (bs : Nat → Nat) (s_field : Int64) (s_houses : Int32) (s_f0 : Nat → Int32) (s_f1 : Nat → Int32) (s_f2 : Nat → Int32) (s_f3 : Nat → Int64) (s_f4 : Nat → Int32) (s_f5 : Nat → Int32) (s_f6 : Nat → Int32) (s_f7 : Nat → Int64) (s_f8 : Nat → Int64) (s_f9 : Nat → Int64) (qp0_l : 0 ≤ p0.toInt) (qp0_h : p0.toInt ≤ 6) (hl_t_span : 0 ≤ t_span.toInt) (hh_t_span : t_span.toInt ≤ 12) (hl_t_rule : 0 ≤ t_rule.toInt) (hh_t_rule : t_rule.toInt ≤ 3) (hl_t_odds : 0 ≤ t_odds.toInt) (hh_t_odds : t_odds.toInt ≤ 10) (hl_t_wide : 0 ≤ t_wide.toInt) (hh_t_wide : t_wide.toInt ≤ 8) (hl_t_high : 0 ≤ t_high.toInt) (hh_t_high : t_high.toInt ≤ 8) (hl_t_creeks : 0 ≤ t_creeks.toInt) (hh_t_creeks : t_creeks.toInt ≤ 12) (hl_t_houses : 0 ≤ t_houses.toInt) (hh_t_houses : t_houses.toInt ≤ 6) (hl_t_widows : 0 ≤ t_widows.toInt) (hh_t_widows : t_widows.toInt ≤ 7) (hl_t_acts : 0 ≤ t_acts.toInt) (hh_t_acts : t_acts.toInt ≤ 30) (ha_t_f14 : ai t_f14 7 (-2147483648) 40) (ha_t_f16 : ai t_f16 7 (-2147483648) 8) (hl_s_houses : 0 ≤ s_houses.toInt) (hh_s_houses : s_houses.toInt ≤ 6) (ha_s_f1 : ai s_f1 7 (-1) 40) : CI l yX9_gain (wl_ yX9_gain cX9_gain 5 (some .int)) ({ frames := 5, cells := 0, slots := 0, locals := 126 } : Room) G (TY cI cJ cZ cB cQ) [.ref h0, .int p0, .int p1, .int p2, .int p3] [(h0, oX9 b), (b 1, oX0 bt t_lines t_span t_rule t_odds t_wide t_high t_creeks t_houses t_widows t_acts), (bt 10, .inl (cI, 12, .inl t_f10)), (bt 11, .inl (cI, 6, .inl t_f11)), (bt 12, .inl (cI, 7, .inl t_f12)), (bt 13, .inl (cI, 7, .inl t_f13)), (bt 14, .inl (cI, 7, .inl t_f14)), (bt 15, .inl (cI, 7, .inl t_f15)), (bt 16, .inl (cI, 7, .inl t_f16)), (bt 17, .inl (cI, 56, .inl t_f17)), (bt 18, .inl (cI, 30, .inl t_f18)), (b 3, oX7 z0 u_rule u_walkers u_creeks u_widow u_faces u_turn), (b 5, oX6 bs s_field s_houses), (bs 0, .inl (cI, 287, .inl s_f0)), (bs 1, .inl (cI, 7, .inl s_f1)), (bs 2, .inl (cI, 7, .inl s_f2)), (bs 3, .inl (cJ, 7, .inr (.inl s_f3))), (bs 4, .inl (cI, 7, .inl s_f4)), (bs 5, .inl (cI, 6, .inl s_f5)), (bs 6, .inl (cI, 78, .inl s_f6)), (bs 7, .inl (cJ, 13, .inr (.inl s_f7))), (bs 8, .inl (cJ, 13, .inr (.inl s_f8))), (bs 9, .inl (cJ, 13, .inr (.inl s_f9)))] sz (fun (r : Int32) (u : Int32 × Int32 × Int64 × Int32 × Int32 × Int32 × Int64 × Int32 × (Nat → Int32) × (Nat → Int32) × (Nat → Int32) × (Nat → Int64) × (Nat → Int32) × (Nat → Int32) × (Nat → Int32) × (Nat → Int64) × (Nat → Int64) × (Nat → Int64)) => 0 ≤ u.2.2.2.2.2.2.2.1.toInt ∧ u.2.2.2.2.2.2.2.1.toInt ≤ 6 ∧ ai u.2.2.2.2.2.2.2.2.2.1 7 (-1) 40) (fun u : Int32 × Int32 × Int64 × Int32 × Int32 × Int32 × Int64 × Int32 × (Nat → Int32) × (Nat → Int32) × (Nat → Int32) × (Nat → Int64) × (Nat → Int32) × (Nat → Int32) × (Nat → Int32) × (Nat → Int64) × (Nat → Int64) × (Nat → Int64) => [(h0, oX9 b), (b 1, oX0 bt t_lines t_span t_rule t_odds t_wide t_high t_creeks t_houses t_widows t_acts), (bt 10, .inl (cI, 12, .inl t_f10)), (bt 11, .inl (cI, 6, .inl t_f11)), (bt 12, .inl (cI, 7, .inl t_f12)), (bt 13, .inl (cI, 7, .inl t_f13)), (bt 14, .inl (cI, 7, .inl t_f14)), (bt 15, .inl (cI, 7, .inl t_f15)), (bt 16, .inl (cI, 7, .inl t_f16)), (bt 17, .inl (cI, 56, .inl t_f17)), (bt 18, .inl (cI, 30, .inl t_f18)), (b 3, oX7 z0 u.1 u.2.1 u.2.2.1 u.2.2.2.1 u.2.2.2.2.1 u.2.2.2.2.2.1), (b 5, oX6 bs u.2.2.2.2.2.2.1 u.2.2.2.2.2.2.2.1), (bs 0, .inl (cI, 287, .inl u.2.2.2.2.2.2.2.2.1)), (bs 1, .inl (cI, 7, .inl u.2.2.2.2.2.2.2.2.2.1)), (bs 2, .inl (cI, 7, .inl u.2.2.2.2.2.2.2.2.2.2.1)), (bs 3, .inl (cJ, 7, .inr (.inl u.2.2.2.2.2.2.2.2.2.2.2.1))), (bs 4, .inl (cI, 7, .inl u.2.2.2.2.2.2.2.2.2.2.2.2.1)), (bs 5, .inl (cI, 6, .inl u.2.2.2.2.2.2.2.2.2.2.2.2.2.1)), (bs 6, .inl (cI, 78, .inl u.2.2.2.2.2.2.2.2.2.2.2.2.2.2.1)), (bs 7, .inl (cJ, 13, .inr (.inl u.2.2.2.2.2.2.2.2.2.2.2.2.2.2.2.1))), (bs 8, .inl (cJ, 13, .inr (.inl u.2.2.2.2.2.2.2.2.2.2.2.2.2.2.2.2.1))), (bs 9, .inl (cJ, 13, .inr (.inl u.2.2.2.2.2.2.2.2.2.2.2.2.2.2.2.2.2)))]) 0 0 := by
  refine CI.go (cc := cX9_gain) (maxL := 5) (ret := (some .int)) (by decide) rfl (Nat.le_of_ble_eq_true rfl) ?_
  intro p e s m below meth c A ls Q hBd hret
  obtain ⟨hx, hb, hr, hml, hts, hown, hlk, hnm, hP, hK, hD, hA, hZ, hl⟩ := hBd
  have hown : s.vm.findClass RX9 = some m.cls := hown
  have hl : lv_has ls 5 [(0, .ref h0), (1, .int p0), (2, .int p1), (3, .int p2), (4, .int p3)] := hl
  have hS : va_S A s.heap s.heap [] := va_S.rf
  refine lv_aload_n hx hb dX9_gain_0 rfl (lv_at hl 0 rfl) ?_
  refine lv_iload_n hx hb dX9_gain_1 rfl (lv_at hl 3 rfl) ?_
  refine lv_iload_n hx hb dX9_gain_2 rfl (lv_at hl 1 rfl) ?_
  refine lv_ishl hx hb dX9_gain_3 ?_
  refine lv_topi (fun v1 ev1 => ?_)
  refine lv_iload hx hb dX9_gain_4 (lv_at hl 4 rfl) ?_
  refine lv_iload_n hx hb dX9_gain_6 rfl (lv_at hl 2 rfl) ?_
  refine lv_ishl hx hb dX9_gain_7 ?_
  refine lv_topi (fun v2 ev2 => ?_)
  refine lv_ior hx hb dX9_gain_8 ?_
  refine lv_topi (fun v3 ev3 => ?_)
  refine k_v (wc := [(h0, oX9 b), (b 1, oX0 bt t_lines t_span t_rule t_odds t_wide t_high t_creeks t_houses t_widows t_acts), (bt 10, .inl (cI, 12, .inl t_f10)), (bt 11, .inl (cI, 6, .inl t_f11)), (bt 12, .inl (cI, 7, .inl t_f12)), (bt 13, .inl (cI, 7, .inl t_f13)), (bt 14, .inl (cI, 7, .inl t_f14)), (bt 15, .inl (cI, 7, .inl t_f15)), (bt 16, .inl (cI, 7, .inl t_f16)), (bt 17, .inl (cI, 56, .inl t_f17)), (bt 18, .inl (cI, 30, .inl t_f18)), (b 3, oX7 z0 u_rule u_walkers u_creeks u_widow u_faces u_turn), (b 5, oX6 bs s_field s_houses), (bs 0, .inl (cI, 287, .inl s_f0)), (bs 1, .inl (cI, 7, .inl s_f1)), (bs 2, .inl (cI, 7, .inl s_f2)), (bs 3, .inl (cJ, 7, .inr (.inl s_f3))), (bs 4, .inl (cI, 7, .inl s_f4)), (bs 5, .inl (cI, 6, .inl s_f5)), (bs 6, .inl (cI, 78, .inl s_f6)), (bs 7, .inl (cJ, 13, .inr (.inl s_f7))), (bs 8, .inl (cJ, 13, .inr (.inl s_f8))), (bs 9, .inl (cJ, 13, .inr (.inl s_f9)))]) (wr := []) hP hD hS hA [0, 1, 2, 3, 4, 5, 6, 7, 8, 9, 10, 11, 12, 13, 14, 15, 16, 17, 18, 19, 20, 21, 22] [] rfl rfl rfl (by decide) (va_runV (As := [.int v3]) (rest := []) ⟨hx, hb, hml, hown, hts⟩ (f_X9_tellInFog l G cI cJ cZ cB cQ _ h0 v3 b bt t_lines t_span t_rule t_odds t_wide t_high t_creeks t_houses t_widows t_acts t_f10 t_f11 t_f12 t_f13 t_f14 t_f15 t_f16 t_f17 t_f18 u_rule u_walkers u_creeks u_widow u_faces u_turn bs s_field s_houses s_f0 s_f1 s_f2 s_f3 s_f4 s_f5 s_f6 s_f7 s_f8 s_f9 hl_t_span hh_t_span hl_t_rule hh_t_rule hl_t_odds hh_t_odds hl_t_wide hh_t_wide hl_t_high hh_t_high hl_t_creeks hh_t_creeks hl_t_houses hh_t_houses hl_t_widows hh_t_widows hl_t_acts hh_t_acts ha_t_f14 ha_t_f16 hl_s_houses hh_s_houses ha_s_f1) (cwV 1 hts (gV w_1057 w_1059 wp_72 w_1 w_1060) rfl rfl rfl ⟨rfl, hd_X9_tellInFog⟩ ⟨Nat.le_of_ble_eq_true rfl, Nat.le_of_ble_eq_true rfl⟩) (mV hK hZ hP hD [0, 1, 2, 3, 4, 5, 6, 7, 8, 9, 10, 11, 12, 13, 14, 15, 16, 17, 18, 19, 20, 21, 22] rfl rfl [.int v3] 0 9 rfl rfl) rfl rfl hl.1 rfl (lv_room (Nat.le_of_ble_eq_true rfl)) dX9_gain_9 ⟨Nat.le_of_ble_eq_true rfl, Nat.le_of_ble_eq_true rfl⟩) (fun u5 H locs hw6 hP hD hS => ?_)
  obtain ⟨u_ruleo7, u_walkerso8, u_creekso9, u_widowo10, u_faceso11, u_turno12, s_fieldo13, s_houseso14, s_f0o15, s_f1o16, s_f2o17, s_f3o18, s_f4o19, s_f5o20, s_f6o21, s_f7o22, s_f8o23, s_f9o24⟩ := u5
  try dsimp only at hw6
  have hP : va_P G vwCl [(h0, oX9 b), (b 1, oX0 bt t_lines t_span t_rule t_odds t_wide t_high t_creeks t_houses t_widows t_acts), (bt 10, .inl (cI, 12, .inl t_f10)), (bt 11, .inl (cI, 6, .inl t_f11)), (bt 12, .inl (cI, 7, .inl t_f12)), (bt 13, .inl (cI, 7, .inl t_f13)), (bt 14, .inl (cI, 7, .inl t_f14)), (bt 15, .inl (cI, 7, .inl t_f15)), (bt 16, .inl (cI, 7, .inl t_f16)), (bt 17, .inl (cI, 56, .inl t_f17)), (bt 18, .inl (cI, 30, .inl t_f18)), (b 3, oX7 z0 u_ruleo7 u_walkerso8 u_creekso9 u_widowo10 u_faceso11 u_turno12), (b 5, oX6 bs s_fieldo13 s_houseso14), (bs 0, .inl (cI, 287, .inl s_f0o15)), (bs 1, .inl (cI, 7, .inl s_f1o16)), (bs 2, .inl (cI, 7, .inl s_f2o17)), (bs 3, .inl (cJ, 7, .inr (.inl s_f3o18))), (bs 4, .inl (cI, 7, .inl s_f4o19)), (bs 5, .inl (cI, 6, .inl s_f5o20)), (bs 6, .inl (cI, 78, .inl s_f6o21)), (bs 7, .inl (cJ, 13, .inr (.inl s_f7o22))), (bs 8, .inl (cJ, 13, .inr (.inl s_f8o23))), (bs 9, .inl (cJ, 13, .inr (.inl s_f9o24)))] H := hP
  have hD : va_D A [(h0, oX9 b), (b 1, oX0 bt t_lines t_span t_rule t_odds t_wide t_high t_creeks t_houses t_widows t_acts), (bt 10, .inl (cI, 12, .inl t_f10)), (bt 11, .inl (cI, 6, .inl t_f11)), (bt 12, .inl (cI, 7, .inl t_f12)), (bt 13, .inl (cI, 7, .inl t_f13)), (bt 14, .inl (cI, 7, .inl t_f14)), (bt 15, .inl (cI, 7, .inl t_f15)), (bt 16, .inl (cI, 7, .inl t_f16)), (bt 17, .inl (cI, 56, .inl t_f17)), (bt 18, .inl (cI, 30, .inl t_f18)), (b 3, oX7 z0 u_ruleo7 u_walkerso8 u_creekso9 u_widowo10 u_faceso11 u_turno12), (b 5, oX6 bs s_fieldo13 s_houseso14), (bs 0, .inl (cI, 287, .inl s_f0o15)), (bs 1, .inl (cI, 7, .inl s_f1o16)), (bs 2, .inl (cI, 7, .inl s_f2o17)), (bs 3, .inl (cJ, 7, .inr (.inl s_f3o18))), (bs 4, .inl (cI, 7, .inl s_f4o19)), (bs 5, .inl (cI, 6, .inl s_f5o20)), (bs 6, .inl (cI, 78, .inl s_f6o21)), (bs 7, .inl (cJ, 13, .inr (.inl s_f7o22))), (bs 8, .inl (cJ, 13, .inr (.inl s_f8o23))), (bs 9, .inl (cJ, 13, .inr (.inl s_f9o24)))] := hD
  obtain ⟨w25, w26, w27⟩ : 0 ≤ s_houseso14.toInt ∧ s_houseso14.toInt ≤ 6 ∧ ai s_f1o16 7 (-1) 40 := hw6
  refine lv_aload_n hx hb dX9_gain_12 rfl (lv_at hl 0 rfl) ?_
  refine va_get (D := G) (ci := 9) (v := .ref (b 5)) (C := RX9) (T := TX9) (N := 11) hx hb hts iG_X9 hown hK hP 0 rfl rfl 5 (by decide) (hts _ w_356) (fun _ h9 => h9) rfl dX9_gain_13 ?_
  refine lv_iload_n hx hb dX9_gain_16 rfl (lv_at hl 1 rfl) ?_
  refine k_i (wc := [(b 5, oX6 bs s_fieldo13 s_houseso14), (bs 3, .inl (cJ, 7, .inr (.inl s_f3o18))), (bs 4, .inl (cI, 7, .inl s_f4o19))]) (wr := [(h0, oX9 b), (b 1, oX0 bt t_lines t_span t_rule t_odds t_wide t_high t_creeks t_houses t_widows t_acts), (bt 10, .inl (cI, 12, .inl t_f10)), (bt 11, .inl (cI, 6, .inl t_f11)), (bt 12, .inl (cI, 7, .inl t_f12)), (bt 13, .inl (cI, 7, .inl t_f13)), (bt 14, .inl (cI, 7, .inl t_f14)), (bt 15, .inl (cI, 7, .inl t_f15)), (bt 16, .inl (cI, 7, .inl t_f16)), (bt 17, .inl (cI, 56, .inl t_f17)), (bt 18, .inl (cI, 30, .inl t_f18)), (b 3, oX7 z0 u_ruleo7 u_walkerso8 u_creekso9 u_widowo10 u_faceso11 u_turno12), (bs 0, .inl (cI, 287, .inl s_f0o15)), (bs 1, .inl (cI, 7, .inl s_f1o16)), (bs 2, .inl (cI, 7, .inl s_f2o17)), (bs 5, .inl (cI, 6, .inl s_f5o20)), (bs 6, .inl (cI, 78, .inl s_f6o21)), (bs 7, .inl (cJ, 13, .inr (.inl s_f7o22))), (bs 8, .inl (cJ, 13, .inr (.inl s_f8o23))), (bs 9, .inl (cJ, 13, .inr (.inl s_f9o24)))]) hP hD hS hA [12, 16, 17] [0, 1, 2, 3, 4, 5, 6, 7, 8, 9, 10, 11, 13, 14, 15, 18, 19, 20, 21, 22] rfl rfl rfl (by decide) (va_runVN (As := [.int p0]) (rest := []) ⟨hx, hb, hml, hown, hts⟩ (f_X6_gainOf l G cI cJ cZ cB cQ _ (b 5) p0 bs s_fieldo13 s_houseso14 s_f3o18 s_f4o19 qp0_l qp0_h w25 w26) ⟨va_cnB (host := "WidowRoads") 1 hts (gW w_1064) rfl rfl rfl (nz_nw hZ nw_1061 rfl) (hts _ w_6) hd_X6_gainOf ⟨Nat.le_of_ble_eq_true rfl, Nat.le_of_ble_eq_true rfl⟩, (hts _ w_1063), (hts _ wp_73)⟩ (mV hK hZ hP hD [12, 16, 17] rfl rfl [.int p0] 12 6 rfl rfl) rfl rfl hl.1 rfl (lv_room (Nat.le_of_ble_eq_true rfl)) dX9_gain_17 ⟨Nat.le_of_ble_eq_true rfl, Nat.le_of_ble_eq_true rfl⟩) (fun r28 u29 H locs hw30 hP hD hS => ?_)
  try dsimp only at hw30
  have hP : va_P G vwCl [(h0, oX9 b), (b 1, oX0 bt t_lines t_span t_rule t_odds t_wide t_high t_creeks t_houses t_widows t_acts), (bt 10, .inl (cI, 12, .inl t_f10)), (bt 11, .inl (cI, 6, .inl t_f11)), (bt 12, .inl (cI, 7, .inl t_f12)), (bt 13, .inl (cI, 7, .inl t_f13)), (bt 14, .inl (cI, 7, .inl t_f14)), (bt 15, .inl (cI, 7, .inl t_f15)), (bt 16, .inl (cI, 7, .inl t_f16)), (bt 17, .inl (cI, 56, .inl t_f17)), (bt 18, .inl (cI, 30, .inl t_f18)), (b 3, oX7 z0 u_ruleo7 u_walkerso8 u_creekso9 u_widowo10 u_faceso11 u_turno12), (bs 0, .inl (cI, 287, .inl s_f0o15)), (bs 1, .inl (cI, 7, .inl s_f1o16)), (bs 2, .inl (cI, 7, .inl s_f2o17)), (bs 5, .inl (cI, 6, .inl s_f5o20)), (bs 6, .inl (cI, 78, .inl s_f6o21)), (bs 7, .inl (cJ, 13, .inr (.inl s_f7o22))), (bs 8, .inl (cJ, 13, .inr (.inl s_f8o23))), (bs 9, .inl (cJ, 13, .inr (.inl s_f9o24))), (b 5, oX6 bs s_fieldo13 s_houseso14), (bs 3, .inl (cJ, 7, .inr (.inl s_f3o18))), (bs 4, .inl (cI, 7, .inl s_f4o19))] H := hP
  have hD : va_D A [(h0, oX9 b), (b 1, oX0 bt t_lines t_span t_rule t_odds t_wide t_high t_creeks t_houses t_widows t_acts), (bt 10, .inl (cI, 12, .inl t_f10)), (bt 11, .inl (cI, 6, .inl t_f11)), (bt 12, .inl (cI, 7, .inl t_f12)), (bt 13, .inl (cI, 7, .inl t_f13)), (bt 14, .inl (cI, 7, .inl t_f14)), (bt 15, .inl (cI, 7, .inl t_f15)), (bt 16, .inl (cI, 7, .inl t_f16)), (bt 17, .inl (cI, 56, .inl t_f17)), (bt 18, .inl (cI, 30, .inl t_f18)), (b 3, oX7 z0 u_ruleo7 u_walkerso8 u_creekso9 u_widowo10 u_faceso11 u_turno12), (bs 0, .inl (cI, 287, .inl s_f0o15)), (bs 1, .inl (cI, 7, .inl s_f1o16)), (bs 2, .inl (cI, 7, .inl s_f2o17)), (bs 5, .inl (cI, 6, .inl s_f5o20)), (bs 6, .inl (cI, 78, .inl s_f6o21)), (bs 7, .inl (cJ, 13, .inr (.inl s_f7o22))), (bs 8, .inl (cJ, 13, .inr (.inl s_f8o23))), (bs 9, .inl (cJ, 13, .inr (.inl s_f9o24))), (b 5, oX6 bs s_fieldo13 s_houseso14), (bs 3, .inl (cJ, 7, .inr (.inl s_f3o18))), (bs 4, .inl (cI, 7, .inl s_f4o19))] := hD
  exact hret _ _ _ _ r28 (u_ruleo7, u_walkerso8, u_creekso9, u_widowo10, u_faceso11, u_turno12, s_fieldo13, s_houseso14, s_f0o15, s_f1o16, s_f2o17, s_f3o18, s_f4o19, s_f5o20, s_f6o21, s_f7o22, s_f8o23, s_f9o24) (hP.sub (ws' := [(h0, oX9 b), (b 1, oX0 bt t_lines t_span t_rule t_odds t_wide t_high t_creeks t_houses t_widows t_acts), (bt 10, .inl (cI, 12, .inl t_f10)), (bt 11, .inl (cI, 6, .inl t_f11)), (bt 12, .inl (cI, 7, .inl t_f12)), (bt 13, .inl (cI, 7, .inl t_f13)), (bt 14, .inl (cI, 7, .inl t_f14)), (bt 15, .inl (cI, 7, .inl t_f15)), (bt 16, .inl (cI, 7, .inl t_f16)), (bt 17, .inl (cI, 56, .inl t_f17)), (bt 18, .inl (cI, 30, .inl t_f18)), (b 3, oX7 z0 u_ruleo7 u_walkerso8 u_creekso9 u_widowo10 u_faceso11 u_turno12), (b 5, oX6 bs s_fieldo13 s_houseso14), (bs 0, .inl (cI, 287, .inl s_f0o15)), (bs 1, .inl (cI, 7, .inl s_f1o16)), (bs 2, .inl (cI, 7, .inl s_f2o17)), (bs 3, .inl (cJ, 7, .inr (.inl s_f3o18))), (bs 4, .inl (cI, 7, .inl s_f4o19)), (bs 5, .inl (cI, 6, .inl s_f5o20)), (bs 6, .inl (cI, 78, .inl s_f6o21)), (bs 7, .inl (cJ, 13, .inr (.inl s_f7o22))), (bs 8, .inl (cJ, 13, .inr (.inl s_f8o23))), (bs 9, .inl (cJ, 13, .inr (.inl s_f9o24)))]) [0, 1, 2, 3, 4, 5, 6, 7, 8, 9, 10, 11, 20, 12, 13, 14, 21, 22, 15, 16, 17, 18, 19] rfl) (hD.sub (ws' := [(h0, oX9 b), (b 1, oX0 bt t_lines t_span t_rule t_odds t_wide t_high t_creeks t_houses t_widows t_acts), (bt 10, .inl (cI, 12, .inl t_f10)), (bt 11, .inl (cI, 6, .inl t_f11)), (bt 12, .inl (cI, 7, .inl t_f12)), (bt 13, .inl (cI, 7, .inl t_f13)), (bt 14, .inl (cI, 7, .inl t_f14)), (bt 15, .inl (cI, 7, .inl t_f15)), (bt 16, .inl (cI, 7, .inl t_f16)), (bt 17, .inl (cI, 56, .inl t_f17)), (bt 18, .inl (cI, 30, .inl t_f18)), (b 3, oX7 z0 u_ruleo7 u_walkerso8 u_creekso9 u_widowo10 u_faceso11 u_turno12), (b 5, oX6 bs s_fieldo13 s_houseso14), (bs 0, .inl (cI, 287, .inl s_f0o15)), (bs 1, .inl (cI, 7, .inl s_f1o16)), (bs 2, .inl (cI, 7, .inl s_f2o17)), (bs 3, .inl (cJ, 7, .inr (.inl s_f3o18))), (bs 4, .inl (cI, 7, .inl s_f4o19)), (bs 5, .inl (cI, 6, .inl s_f5o20)), (bs 6, .inl (cI, 78, .inl s_f6o21)), (bs 7, .inl (cJ, 13, .inr (.inl s_f7o22))), (bs 8, .inl (cJ, 13, .inr (.inl s_f8o23))), (bs 9, .inl (cJ, 13, .inr (.inl s_f9o24)))]) [0, 1, 2, 3, 4, 5, 6, 7, 8, 9, 10, 11, 20, 12, 13, 14, 21, 22, 15, 16, 17, 18, 19] rfl rfl) hS dX9_gain_20 (show 0 ≤ s_houseso14.toInt ∧ s_houseso14.toInt ≤ 6 ∧ ai s_f1o16 7 (-1) 40 from ⟨w25, w26, w27⟩)
set_option maxHeartbeats 4000000 in
set_option maxRecDepth 100000 in
theorem f_X9_areTwo (l : Launch) (G : va_G) (cI cJ cZ cB cQ : ClassId) (sz : Nat) (h0 : Nat) (p0 : Int32) (p1 : Int32) (b : Nat → Nat) (bt : Nat → Nat) (t_lines : Int32) (t_span : Int32) (t_rule : Int32) (t_odds : Int32) (t_wide : Int32) (t_high : Int32) (t_creeks : Int32) (t_houses : Int32) (t_widows : Int32) (t_acts : Int32) (hl_t_span : 0 ≤ t_span.toInt) (hh_t_span : t_span.toInt ≤ 12) (hl_t_rule : 0 ≤ t_rule.toInt) (hh_t_rule : t_rule.toInt ≤ 3) (hl_t_odds : 0 ≤ t_odds.toInt) (hh_t_odds : t_odds.toInt ≤ 10) (hl_t_wide : 0 ≤ t_wide.toInt) (hh_t_wide : t_wide.toInt ≤ 8) (hl_t_high : 0 ≤ t_high.toInt) (hh_t_high : t_high.toInt ≤ 8) (hl_t_creeks : 0 ≤ t_creeks.toInt) (hh_t_creeks : t_creeks.toInt ≤ 12) (hl_t_houses : 0 ≤ t_houses.toInt) (hh_t_houses : t_houses.toInt ≤ 6) (hl_t_widows : 0 ≤ t_widows.toInt) (hh_t_widows : t_widows.toInt ≤ 7) (hl_t_acts : 0 ≤ t_acts.toInt) (hh_t_acts : t_acts.toInt ≤ 30) : CI l yX9_areTwo (wl_ yX9_areTwo cX9_areTwo 3 (some .boolean)) ({ frames := 1, cells := 0, slots := 0, locals := 22 } : Room) G (TY cI cJ cZ cB cQ) [.ref h0, .int p0, .int p1] [(h0, oX9 b), (b 1, oX0 bt t_lines t_span t_rule t_odds t_wide t_high t_creeks t_houses t_widows t_acts)] sz (fun (r : Int32) (u : Unit) => ((r = 1 ∧ 0 ≤ p0.toInt ∧ p0.toInt < t_widows.toInt ∧ 0 ≤ p1.toInt ∧ p1.toInt < t_widows.toInt) ∨ (r = 0))) (fun _ : Unit => [(h0, oX9 b), (b 1, oX0 bt t_lines t_span t_rule t_odds t_wide t_high t_creeks t_houses t_widows t_acts)]) 0 0 := by
  refine CI.goz (cc := cX9_areTwo) (maxL := 3) (ret := (some .boolean)) (by decide) rfl (Nat.le_of_ble_eq_true rfl) ?_
  intro p e s m below meth c A ls Q hBd hret
  obtain ⟨hx, hb, hr, hml, hts, hown, hlk, hnm, hP, hK, hD, hA, hZ, hl⟩ := hBd
  have hown : s.vm.findClass RX9 = some m.cls := hown
  have hl : lv_has ls 3 [(0, .ref h0), (1, .int p0), (2, .int p1)] := hl
  have hS : va_S A s.heap s.heap [] := va_S.rf
  refine lv_aload_n hx hb dX9_areTwo_0 rfl (lv_at hl 0 rfl) ?_
  refine va_get (D := G) (ci := 9) (v := .ref (b 1)) (C := RX9) (T := TX9) (N := 11) hx hb hts iG_X9 hown hK hP 0 rfl rfl 1 (by decide) (hts _ w_352) (fun _ h9 => h9) rfl dX9_areTwo_1 ?_
  refine lv_iload_n hx hb dX9_areTwo_4 rfl (lv_at hl 1 rfl) ?_
  obtain ⟨v1, ev1⟩ : ∃ y : Int64, p0.toInt64 = y := ⟨_, rfl⟩
  have tv1 : v1.toInt = p0.toInt := ti_wide rfl ev1
  refine lv_i2l (v := v1) hx hb dX9_areTwo_5 ev1 ?_
  refine k_i (wc := [(b 1, oX0 bt t_lines t_span t_rule t_odds t_wide t_high t_creeks t_houses t_widows t_acts)]) (wr := [(h0, oX9 b)]) hP hD hS hA [1] [0] rfl rfl rfl (by decide) (va_runVN (As := [.long v1]) (rest := []) ⟨hx, hb, hml, hown, hts⟩ (f_X0_hasWidow l G cI cJ cZ cB cQ _ (b 1) v1 p0.toInt bt t_lines t_span t_rule t_odds t_wide t_high t_creeks t_houses t_widows t_acts tv1 hl_t_span hh_t_span hl_t_rule hh_t_rule hl_t_odds hh_t_odds hl_t_wide hh_t_wide hl_t_high hh_t_high hl_t_creeks hh_t_creeks hl_t_houses hh_t_houses hl_t_widows hh_t_widows hl_t_acts hh_t_acts) ⟨va_cnB (host := "WidowRoads") 1 hts (gW w_671) rfl rfl rfl (nz_nw hZ nw_668 rfl) (hts _ w_4) hd_X0_hasWidow ⟨Nat.le_of_ble_eq_true rfl, Nat.le_of_ble_eq_true rfl⟩, (hts _ w_670), (hts _ wp_35)⟩ (mV hK hZ hP hD [1] rfl rfl [.long v1] 1 0 rfl rfl) rfl rfl hl.1 rfl (lv_room (Nat.le_of_ble_eq_true rfl)) dX9_areTwo_6 ⟨Nat.le_of_ble_eq_true rfl, Nat.le_of_ble_eq_true rfl⟩) (fun r2 u3 H locs hw4 hP hD hS => ?_)
  try dsimp only at hw4
  have hP : va_P G vwCl [(h0, oX9 b), (b 1, oX0 bt t_lines t_span t_rule t_odds t_wide t_high t_creeks t_houses t_widows t_acts)] H := hP
  have hD : va_D A [(h0, oX9 b), (b 1, oX0 bt t_lines t_span t_rule t_odds t_wide t_high t_creeks t_houses t_widows t_acts)] := hD
  rcases hw4 with ⟨rfl, a6, a7⟩ | ⟨rfl, a8⟩
  · skip
    refine lv_if_eq (tgt := 33) hx hb dX9_areTwo_9 (by decide) (fun c9 => absurd c9 (by decide)) (fun c9 => ?_)
    refine lv_aload_n hx hb dX9_areTwo_12 rfl (lv_at hl 0 rfl) ?_
    refine va_get (D := G) (ci := 9) (v := .ref (b 1)) (C := RX9) (T := TX9) (N := 11) hx hb hts iG_X9 hown hK hP 0 rfl rfl 1 (by decide) (hts _ w_352) (fun _ h9 => h9) rfl dX9_areTwo_13 ?_
    refine lv_iload_n hx hb dX9_areTwo_16 rfl (lv_at hl 2 rfl) ?_
    obtain ⟨v10, ev10⟩ : ∃ y : Int64, p1.toInt64 = y := ⟨_, rfl⟩
    have tv10 : v10.toInt = p1.toInt := ti_wide rfl ev10
    refine lv_i2l (v := v10) hx hb dX9_areTwo_17 ev10 ?_
    refine k_i (wc := [(b 1, oX0 bt t_lines t_span t_rule t_odds t_wide t_high t_creeks t_houses t_widows t_acts)]) (wr := [(h0, oX9 b)]) hP hD hS hA [1] [0] rfl rfl rfl (by decide) (va_runVN (As := [.long v10]) (rest := []) ⟨hx, hb, hml, hown, hts⟩ (f_X0_hasWidow l G cI cJ cZ cB cQ _ (b 1) v10 p1.toInt bt t_lines t_span t_rule t_odds t_wide t_high t_creeks t_houses t_widows t_acts tv10 hl_t_span hh_t_span hl_t_rule hh_t_rule hl_t_odds hh_t_odds hl_t_wide hh_t_wide hl_t_high hh_t_high hl_t_creeks hh_t_creeks hl_t_houses hh_t_houses hl_t_widows hh_t_widows hl_t_acts hh_t_acts) ⟨va_cnB (host := "WidowRoads") 1 hts (gW w_671) rfl rfl rfl (nz_nw hZ nw_668 rfl) (hts _ w_4) hd_X0_hasWidow ⟨Nat.le_of_ble_eq_true rfl, Nat.le_of_ble_eq_true rfl⟩, (hts _ w_670), (hts _ wp_35)⟩ (mV hK hZ hP hD [1] rfl rfl [.long v10] 1 0 rfl rfl) rfl rfl hl.1 rfl (lv_room (Nat.le_of_ble_eq_true rfl)) dX9_areTwo_18 ⟨Nat.le_of_ble_eq_true rfl, Nat.le_of_ble_eq_true rfl⟩) (fun r11 u12 H locs hw13 hP hD hS => ?_)
    try dsimp only at hw13
    have hP : va_P G vwCl [(h0, oX9 b), (b 1, oX0 bt t_lines t_span t_rule t_odds t_wide t_high t_creeks t_houses t_widows t_acts)] H := hP
    have hD : va_D A [(h0, oX9 b), (b 1, oX0 bt t_lines t_span t_rule t_odds t_wide t_high t_creeks t_houses t_widows t_acts)] := hD
    rcases hw13 with ⟨rfl, a15, a16⟩ | ⟨rfl, a17⟩
    · skip
      refine lv_if_eq (tgt := 33) hx hb dX9_areTwo_21 (by decide) (fun c18 => absurd c18 (by decide)) (fun c18 => ?_)
      refine lv_iload_n hx hb dX9_areTwo_24 rfl (lv_at hl 1 rfl) ?_
      refine lv_iload_n hx hb dX9_areTwo_25 rfl (lv_at hl 2 rfl) ?_
      refine lv_icmp_eq (tgt := 33) hx hb dX9_areTwo_26 (by decide) (fun c19 => ?_) (fun c19 => ?_)
      · have c19 := i_eq rfl rfl c19
        refine lv_iconst (v := 0) hx hb dX9_areTwo_33 (by decide) ?_
        exact hret _ _ _ _ 0 () hP hD hS dX9_areTwo_34 rfl (show (((0 : Int32) = 1 ∧ 0 ≤ p0.toInt ∧ p0.toInt < t_widows.toInt ∧ 0 ≤ p1.toInt ∧ p1.toInt < t_widows.toInt) ∨ ((0 : Int32) = 0)) from (Or.inr rfl))
      · have c19 := i_ne rfl rfl c19
        refine lv_iconst (v := 1) hx hb dX9_areTwo_29 (by decide) ?_
        refine lv_goto (tgt := 34) hx hb dX9_areTwo_30 (by decide) ?_
        exact hret _ _ _ _ 1 () hP hD hS dX9_areTwo_34 rfl (show (((1 : Int32) = 1 ∧ 0 ≤ p0.toInt ∧ p0.toInt < t_widows.toInt ∧ 0 ≤ p1.toInt ∧ p1.toInt < t_widows.toInt) ∨ ((1 : Int32) = 0)) from (Or.inl ⟨rfl, by omega, by omega, by omega, by omega⟩))
    · skip
      refine lv_if_eq (tgt := 33) hx hb dX9_areTwo_21 (by decide) (fun c20 => ?_) (fun c20 => absurd (by decide) c20)
      refine lv_iconst (v := 0) hx hb dX9_areTwo_33 (by decide) ?_
      exact hret _ _ _ _ 0 () hP hD hS dX9_areTwo_34 rfl (show (((0 : Int32) = 1 ∧ 0 ≤ p0.toInt ∧ p0.toInt < t_widows.toInt ∧ 0 ≤ p1.toInt ∧ p1.toInt < t_widows.toInt) ∨ ((0 : Int32) = 0)) from (Or.inr rfl))
  · skip
    refine lv_if_eq (tgt := 33) hx hb dX9_areTwo_9 (by decide) (fun c21 => ?_) (fun c21 => absurd (by decide) c21)
    refine lv_iconst (v := 0) hx hb dX9_areTwo_33 (by decide) ?_
    exact hret _ _ _ _ 0 () hP hD hS dX9_areTwo_34 rfl (show (((0 : Int32) = 1 ∧ 0 ≤ p0.toInt ∧ p0.toInt < t_widows.toInt ∧ 0 ≤ p1.toInt ∧ p1.toInt < t_widows.toInt) ∨ ((0 : Int32) = 0)) from (Or.inr rfl))
set_option maxHeartbeats 4000000 in
set_option maxRecDepth 100000 in
theorem f_X9_leftAtWorst (l : Launch) (G : va_G) (cI cJ cZ cB cQ : ClassId) (sz : Nat) (h0 : Nat) (p0 : Int32) (p1 : Int32) (b : Nat → Nat) (o_f10 : Nat → Int32) (qp1_l : 0 ≤ p1.toInt) (qp1_h : p1.toInt ≤ 40) : CI l yX9_leftAtWorst (wl_ yX9_leftAtWorst cX9_leftAtWorst 8 (some .int)) ({ frames := 1, cells := 0, slots := 0, locals := 21 } : Room) G (TY cI cJ cZ cB cQ) [.ref h0, .int p0, .int p1] [(h0, oX9 b), (b 10, .inl (cI, 164, .inl o_f10))] sz (fun (r : Int32) (u : Unit) => True) (fun _ : Unit => [(h0, oX9 b), (b 10, .inl (cI, 164, .inl o_f10))]) 0 0 := by
  refine CI.go (cc := cX9_leftAtWorst) (maxL := 8) (ret := (some .int)) (by decide) rfl (Nat.le_of_ble_eq_true rfl) ?_
  intro p e s m below meth c A ls Q hBd hret
  obtain ⟨hx, hb, hr, hml, hts, hown, hlk, hnm, hP, hK, hD, hA, hZ, hl⟩ := hBd
  have hown : s.vm.findClass RX9 = some m.cls := hown
  have hl : lv_has ls 8 [(0, .ref h0), (1, .int p0), (2, .int p1)] := hl
  have hS : va_S A s.heap s.heap [] := va_S.rf
  refine lv_iconst (v := 0) hx hb dX9_leftAtWorst_0 (by decide) ?_
  refine lv_istore_n (lv' := [(3, .int 0), (0, .ref h0), (1, .int p0), (2, .int p1)]) hx hb dX9_leftAtWorst_1 rfl hl (by decide) rfl (fun ls hl => ?_)
  refine lv_iconst (v := 0) hx hb dX9_leftAtWorst_2 (by decide) ?_
  refine lv_istore (lv' := [(4, .int 0), (3, .int 0), (0, .ref h0), (1, .int p0), (2, .int p1)]) hx hb dX9_leftAtWorst_3 hl (by decide) rfl (fun ls hl => ?_)
  have lp1 : ∀ (n2 : Nat) (x3 : Int32) (x4 : Int32), 0 ≤ x4.toInt → x4.toInt ≤ 4 → 4 - x4.toInt < (n2 : Int) → ∀ (H : Heap) (locs : List Loc), va_P G vwCl [(h0, oX9 b), (b 10, .inl (cI, 164, .inl o_f10))] H → va_D A [(h0, oX9 b), (b 10, .inl (cI, 164, .inl o_f10))] → va_S A s.heap H locs → ∀ (ls : Array Slot), lv_has ls 8 [(4, .int x4), (3, .int x3), (0, .ref h0), (1, .int p0), (2, .int p1)] → W p l e ({ frames := 1, cells := 0, slots := 0, locals := 21 } : Room) s m ([.ref h0, .int p0, .int p1] : List Value).toArray below meth c H locs 0 0 Q (F0 m 5 ls []) := by
    intro n2
    induction n2 with
    | zero =>
      intro x3 x4 k5 k6 mm8
      exact absurd mm8 (by have q9 := fb_rng x4; omega)
    | succ n2 ih7 =>
      intro x3 x4 k5 k6 mm8 H locs hP hD hS ls hl
      refine lv_iload hx hb dX9_leftAtWorst_5 (lv_at hl 0 rfl) ?_
      refine lv_iconst (v := 4) hx hb dX9_leftAtWorst_7 (by decide) ?_
      refine lv_icmp_ge (tgt := 109) hx hb dX9_leftAtWorst_8 (by decide) (fun c9 => ?_) (fun c9 => ?_)
      · have c9 := i_le ki_4 rfl c9
        refine lv_iload_n hx hb dX9_leftAtWorst_109 rfl (lv_at hl 1 rfl) ?_
        exact hret _ _ _ _ x3 () hP hD hS dX9_leftAtWorst_110 trivial
      · have c9 := i_nle ki_4 rfl c9
        refine lv_iconst (v := 0) hx hb dX9_leftAtWorst_11 (by decide) ?_
        refine lv_istore (lv' := [(5, .int 0), (4, .int x4), (3, .int x3), (0, .ref h0), (1, .int p0), (2, .int p1)]) hx hb dX9_leftAtWorst_12 hl (by decide) rfl (fun ls hl => ?_)
        refine lv_iconst (v := 0) hx hb dX9_leftAtWorst_14 (by decide) ?_
        refine lv_istore (lv' := [(6, .int 0), (5, .int 0), (4, .int x4), (3, .int x3), (0, .ref h0), (1, .int p0), (2, .int p1)]) hx hb dX9_leftAtWorst_15 hl (by decide) rfl (fun ls hl => ?_)
        have lp10 : ∀ (n11 : Nat) (x12 : Int32) (x13 : Int32), 0 ≤ x13.toInt → x13.toInt ≤ 4 → 4 - x13.toInt < (n11 : Int) → ∀ (H : Heap) (locs : List Loc), va_P G vwCl [(h0, oX9 b), (b 10, .inl (cI, 164, .inl o_f10))] H → va_D A [(h0, oX9 b), (b 10, .inl (cI, 164, .inl o_f10))] → va_S A s.heap H locs → ∀ (ls : Array Slot), lv_has ls 8 [(6, .int x13), (5, .int x12), (4, .int x4), (3, .int x3), (0, .ref h0), (1, .int p0), (2, .int p1)] → W p l e ({ frames := 1, cells := 0, slots := 0, locals := 21 } : Room) s m ([.ref h0, .int p0, .int p1] : List Value).toArray below meth c H locs 0 0 Q (F0 m 17 ls []) := by
          intro n11
          induction n11 with
          | zero =>
            intro x12 x13 k14 k15 mm17
            exact absurd mm17 (by have q9 := fb_rng x13; omega)
          | succ n11 ih16 =>
            intro x12 x13 k14 k15 mm17 H locs hP hD hS ls hl
            refine lv_iload hx hb dX9_leftAtWorst_17 (lv_at hl 0 rfl) ?_
            refine lv_iconst (v := 4) hx hb dX9_leftAtWorst_19 (by decide) ?_
            refine lv_icmp_ge (tgt := 96) hx hb dX9_leftAtWorst_20 (by decide) (fun c18 => ?_) (fun c18 => ?_)
            · have c18 := i_le ki_4 rfl c18
              refine lv_iload_n hx hb dX9_leftAtWorst_96 rfl (lv_at hl 3 rfl) ?_
              refine lv_iload hx hb dX9_leftAtWorst_97 (lv_at hl 1 rfl) ?_
              refine va_mmax hx hb (by rw [hml]; exact hl.1.symm) hown (hts _ w_821) (hts _ w_822) (hts _ w_16) (hts _ w_823) (Nat.le_of_ble_eq_true rfl) (Nat.le_of_ble_eq_true rfl) (Nat.le_of_ble_eq_true rfl) (Nat.le_of_ble_eq_true rfl) dX9_leftAtWorst_99 ?_
              refine lv_topi (fun v19 ev19 => ?_)
              refine lv_istore_n (lv' := [(3, .int v19), (6, .int x13), (5, .int x12), (4, .int x4), (0, .ref h0), (1, .int p0), (2, .int p1)]) hx hb dX9_leftAtWorst_102 rfl hl (by decide) rfl (fun ls hl => ?_)
              obtain ⟨v20, ev20⟩ : ∃ y : Int32, y = x4 + 1 := ⟨_, rfl⟩
              have tv20 : v20.toInt = x4.toInt + 1 := ti_add rfl ki_1 ev20 (by omega) (by omega)
              refine lv_iinc (v := v20) (lv' := [(4, .int v20), (3, .int v19), (6, .int x13), (5, .int x12), (0, .ref h0), (1, .int p0), (2, .int p1)]) hx hb dX9_leftAtWorst_103 hl (k := 3) rfl (by rw [ev20]; rfl) (by decide) rfl (fun ls hl => ?_)
              refine lv_goto (tgt := 5) hx hb dX9_leftAtWorst_106 (by decide) ?_
              exact ih7 v19 v20 (by omega) (by omega) (by omega) _ _ hP hD hS ls (lv_sub hl [0, 1, 4, 5, 6] rfl)
            · have c18 := i_nle ki_4 rfl c18
              refine lv_iload_n hx hb dX9_leftAtWorst_23 rfl (lv_at hl 5 rfl) ?_
              refine lv_iload hx hb dX9_leftAtWorst_24 (lv_at hl 2 rfl) ?_
              refine lv_ishr hx hb dX9_leftAtWorst_26 ?_
              refine lv_topi (fun v21 ev21 => ?_)
              refine lv_iload_n hx hb dX9_leftAtWorst_27 rfl (lv_at hl 5 rfl) ?_
              refine lv_iload hx hb dX9_leftAtWorst_28 (lv_at hl 0 rfl) ?_
              refine lv_ishr hx hb dX9_leftAtWorst_30 ?_
              refine lv_topi (fun v22 ev22 => ?_)
              refine lv_iand hx hb dX9_leftAtWorst_31 ?_
              refine lv_topi (fun v23 ev23 => ?_)
              refine lv_iconst (v := 1) hx hb dX9_leftAtWorst_32 (by decide) ?_
              refine lv_iand hx hb dX9_leftAtWorst_33 ?_
              refine lv_topi (fun v24 ev24 => ?_)
              obtain ⟨sa25, sb26⟩ : 0 ≤ v24.toInt ∧ v24.toInt ≤ 1 := and_m 1 (by decide) (by decide) ev24
              refine lv_iconst (v := 1) hx hb dX9_leftAtWorst_34 (by decide) ?_
              refine lv_icmp_ne (tgt := 42) hx hb dX9_leftAtWorst_35 (by decide) (fun c27 => ?_) (fun c27 => ?_)
              · have c27 := i_ne rfl ki_1 c27
                refine lv_iconst (v := 0) hx hb dX9_leftAtWorst_42 (by decide) ?_
                refine lv_istore (lv' := [(7, .int 0), (6, .int x13), (5, .int x12), (4, .int x4), (3, .int x3), (0, .ref h0), (1, .int p0), (2, .int p1)]) hx hb dX9_leftAtWorst_43 hl (by decide) rfl (fun ls hl => ?_)
                refine lv_iload hx hb dX9_leftAtWorst_45 (lv_at hl 2 rfl) ?_
                refine lv_iload hx hb dX9_leftAtWorst_47 (lv_at hl 0 rfl) ?_
                refine lv_if_eq (tgt := 83) hx hb dX9_leftAtWorst_49 (by decide) (fun c28 => ?_) (fun c28 => absurd (by decide) c28)
                refine lv_iconst (v := 0) hx hb dX9_leftAtWorst_83 (by decide) ?_
                refine k_i (wc := []) (wr := [(h0, oX9 b), (b 10, .inl (cI, 164, .inl o_f10))]) hP hD hS hA [] [0, 1] rfl rfl rfl (by decide) (va_runS (As := [.int 0]) (rest := [.int x12]) ⟨hx, hb, hml, hown, hts⟩ (f_X9_oneIf l G cI cJ cZ cB cQ _ 0) (va_cwS 1 hts (gS w_661 w_662 w_1 w_663) rfl rfl rfl hd_X9_oneIf ⟨Nat.le_of_ble_eq_true rfl, Nat.le_of_ble_eq_true rfl⟩) (mS hK hZ hP hD [] rfl rfl [.int 0]) rfl rfl hl.1 rfl (lv_room (Nat.le_of_ble_eq_true rfl)) dX9_leftAtWorst_84 ⟨Nat.le_of_ble_eq_true rfl, Nat.le_of_ble_eq_true rfl⟩) (fun r29 u30 H locs hw31 hP hD hS => ?_)
                try dsimp only at hw31
                have hP : va_P G vwCl [(h0, oX9 b), (b 10, .inl (cI, 164, .inl o_f10))] H := hP
                have hD : va_D A [(h0, oX9 b), (b 10, .inl (cI, 164, .inl o_f10))] := hD
                obtain ⟨w32, w33⟩ : 0 ≤ r29.toInt ∧ r29.toInt ≤ 1 := hw31
                refine lv_iadd hx hb dX9_leftAtWorst_87 ?_
                refine lv_topi (fun v34 ev34 => ?_)
                refine lv_istore (lv' := [(5, .int v34), (7, .int 0), (6, .int x13), (4, .int x4), (3, .int x3), (0, .ref h0), (1, .int p0), (2, .int p1)]) hx hb dX9_leftAtWorst_88 hl (by decide) rfl (fun ls hl => ?_)
                obtain ⟨v35, ev35⟩ : ∃ y : Int32, y = x13 + 1 := ⟨_, rfl⟩
                have tv35 : v35.toInt = x13.toInt + 1 := ti_add rfl ki_1 ev35 (by omega) (by omega)
                refine lv_iinc (v := v35) (lv' := [(6, .int v35), (5, .int v34), (7, .int 0), (4, .int x4), (3, .int x3), (0, .ref h0), (1, .int p0), (2, .int p1)]) hx hb dX9_leftAtWorst_90 hl (k := 2) rfl (by rw [ev35]; rfl) (by decide) rfl (fun ls hl => ?_)
                refine lv_goto (tgt := 17) hx hb dX9_leftAtWorst_93 (by decide) ?_
                exact ih16 v34 v35 (by omega) (by omega) (by omega) _ _ hP hD hS ls (lv_sub hl [0, 1, 3, 4, 5, 6, 7] rfl)
              · have c27 := i_eq rfl ki_1 c27
                refine lv_iconst (v := 1) hx hb dX9_leftAtWorst_38 (by decide) ?_
                refine lv_goto (tgt := 43) hx hb dX9_leftAtWorst_39 (by decide) ?_
                refine lv_istore (lv' := [(7, .int 1), (6, .int x13), (5, .int x12), (4, .int x4), (3, .int x3), (0, .ref h0), (1, .int p0), (2, .int p1)]) hx hb dX9_leftAtWorst_43 hl (by decide) rfl (fun ls hl => ?_)
                refine lv_iload hx hb dX9_leftAtWorst_45 (lv_at hl 2 rfl) ?_
                refine lv_iload hx hb dX9_leftAtWorst_47 (lv_at hl 0 rfl) ?_
                refine lv_if_eq (tgt := 83) hx hb dX9_leftAtWorst_49 (by decide) (fun c36 => absurd c36 (by decide)) (fun c36 => ?_)
                refine lv_aload_n hx hb dX9_leftAtWorst_52 rfl (lv_at hl 5 rfl) ?_
                refine va_get (D := G) (ci := 9) (v := .ref (b 10)) (C := RX9) (T := TX9) (N := 11) hx hb hts iG_X9 hown hK hP 0 rfl rfl 10 (by decide) (hts _ w_361) (fun _ h9 => h9) rfl dX9_leftAtWorst_53 ?_
                refine lv_iload hx hb dX9_leftAtWorst_56 (lv_at hl 3 rfl) ?_
                refine lv_bipush (v := 41) hx hb dX9_leftAtWorst_58 (by decide) ?_
                refine lv_imul hx hb dX9_leftAtWorst_60 ?_
                refine lv_topi (fun v37 ev37 => ?_)
                have tv37 : v37.toInt = x4.toInt * 41 := ti_mul rfl ki_41 ev37 (by omega) (by omega)
                refine lv_iload_n hx hb dX9_leftAtWorst_61 rfl (lv_at hl 7 rfl) ?_
                refine lv_iadd hx hb dX9_leftAtWorst_62 ?_
                refine lv_topi (fun v38 ev38 => ?_)
                have tv38 : v38.toInt = x4.toInt * 41 + p1.toInt := ti_add tv37 rfl ev38 (by omega) (by omega)
                refine va_iald hx hb hK hP 1 0 rfl rfl (ix_in tv38 (by omega) (by omega)) dX9_leftAtWorst_63 ?_
                refine lv_topi (fun v39 ev39 => ?_)
                refine lv_aload_n hx hb dX9_leftAtWorst_64 rfl (lv_at hl 5 rfl) ?_
                refine va_get (D := G) (ci := 9) (v := .ref (b 10)) (C := RX9) (T := TX9) (N := 11) hx hb hts iG_X9 hown hK hP 0 rfl rfl 10 (by decide) (hts _ w_361) (fun _ h9 => h9) rfl dX9_leftAtWorst_65 ?_
                refine lv_iload hx hb dX9_leftAtWorst_68 (lv_at hl 1 rfl) ?_
                refine lv_bipush (v := 41) hx hb dX9_leftAtWorst_70 (by decide) ?_
                refine lv_imul hx hb dX9_leftAtWorst_72 ?_
                refine lv_topi (fun v40 ev40 => ?_)
                have tv40 : v40.toInt = x13.toInt * 41 := ti_mul rfl ki_41 ev40 (by omega) (by omega)
                refine lv_iload_n hx hb dX9_leftAtWorst_73 rfl (lv_at hl 7 rfl) ?_
                refine lv_iadd hx hb dX9_leftAtWorst_74 ?_
                refine lv_topi (fun v41 ev41 => ?_)
                have tv41 : v41.toInt = x13.toInt * 41 + p1.toInt := ti_add tv40 rfl ev41 (by omega) (by omega)
                refine va_iald hx hb hK hP 1 0 rfl rfl (ix_in tv41 (by omega) (by omega)) dX9_leftAtWorst_75 ?_
                refine lv_topi (fun v42 ev42 => ?_)
                refine lv_icmp_ne (tgt := 83) hx hb dX9_leftAtWorst_76 (by decide) (fun c43 => ?_) (fun c43 => ?_)
                · have c43 := i_ne rfl rfl c43
                  refine lv_iconst (v := 0) hx hb dX9_leftAtWorst_83 (by decide) ?_
                  refine k_i (wc := []) (wr := [(h0, oX9 b), (b 10, .inl (cI, 164, .inl o_f10))]) hP hD hS hA [] [0, 1] rfl rfl rfl (by decide) (va_runS (As := [.int 0]) (rest := [.int x12]) ⟨hx, hb, hml, hown, hts⟩ (f_X9_oneIf l G cI cJ cZ cB cQ _ 0) (va_cwS 1 hts (gS w_661 w_662 w_1 w_663) rfl rfl rfl hd_X9_oneIf ⟨Nat.le_of_ble_eq_true rfl, Nat.le_of_ble_eq_true rfl⟩) (mS hK hZ hP hD [] rfl rfl [.int 0]) rfl rfl hl.1 rfl (lv_room (Nat.le_of_ble_eq_true rfl)) dX9_leftAtWorst_84 ⟨Nat.le_of_ble_eq_true rfl, Nat.le_of_ble_eq_true rfl⟩) (fun r44 u45 H locs hw46 hP hD hS => ?_)
                  try dsimp only at hw46
                  have hP : va_P G vwCl [(h0, oX9 b), (b 10, .inl (cI, 164, .inl o_f10))] H := hP
                  have hD : va_D A [(h0, oX9 b), (b 10, .inl (cI, 164, .inl o_f10))] := hD
                  obtain ⟨w47, w48⟩ : 0 ≤ r44.toInt ∧ r44.toInt ≤ 1 := hw46
                  refine lv_iadd hx hb dX9_leftAtWorst_87 ?_
                  refine lv_topi (fun v49 ev49 => ?_)
                  refine lv_istore (lv' := [(5, .int v49), (7, .int 1), (6, .int x13), (4, .int x4), (3, .int x3), (0, .ref h0), (1, .int p0), (2, .int p1)]) hx hb dX9_leftAtWorst_88 hl (by decide) rfl (fun ls hl => ?_)
                  obtain ⟨v50, ev50⟩ : ∃ y : Int32, y = x13 + 1 := ⟨_, rfl⟩
                  have tv50 : v50.toInt = x13.toInt + 1 := ti_add rfl ki_1 ev50 (by omega) (by omega)
                  refine lv_iinc (v := v50) (lv' := [(6, .int v50), (5, .int v49), (7, .int 1), (4, .int x4), (3, .int x3), (0, .ref h0), (1, .int p0), (2, .int p1)]) hx hb dX9_leftAtWorst_90 hl (k := 2) rfl (by rw [ev50]; rfl) (by decide) rfl (fun ls hl => ?_)
                  refine lv_goto (tgt := 17) hx hb dX9_leftAtWorst_93 (by decide) ?_
                  exact ih16 v49 v50 (by omega) (by omega) (by omega) _ _ hP hD hS ls (lv_sub hl [0, 1, 3, 4, 5, 6, 7] rfl)
                · have c43 := i_eq rfl rfl c43
                  refine lv_iconst (v := 1) hx hb dX9_leftAtWorst_79 (by decide) ?_
                  refine lv_goto (tgt := 84) hx hb dX9_leftAtWorst_80 (by decide) ?_
                  refine k_i (wc := []) (wr := [(h0, oX9 b), (b 10, .inl (cI, 164, .inl o_f10))]) hP hD hS hA [] [0, 1] rfl rfl rfl (by decide) (va_runS (As := [.int 1]) (rest := [.int x12]) ⟨hx, hb, hml, hown, hts⟩ (f_X9_oneIf l G cI cJ cZ cB cQ _ 1) (va_cwS 1 hts (gS w_661 w_662 w_1 w_663) rfl rfl rfl hd_X9_oneIf ⟨Nat.le_of_ble_eq_true rfl, Nat.le_of_ble_eq_true rfl⟩) (mS hK hZ hP hD [] rfl rfl [.int 1]) rfl rfl hl.1 rfl (lv_room (Nat.le_of_ble_eq_true rfl)) dX9_leftAtWorst_84 ⟨Nat.le_of_ble_eq_true rfl, Nat.le_of_ble_eq_true rfl⟩) (fun r51 u52 H locs hw53 hP hD hS => ?_)
                  try dsimp only at hw53
                  have hP : va_P G vwCl [(h0, oX9 b), (b 10, .inl (cI, 164, .inl o_f10))] H := hP
                  have hD : va_D A [(h0, oX9 b), (b 10, .inl (cI, 164, .inl o_f10))] := hD
                  obtain ⟨w54, w55⟩ : 0 ≤ r51.toInt ∧ r51.toInt ≤ 1 := hw53
                  refine lv_iadd hx hb dX9_leftAtWorst_87 ?_
                  refine lv_topi (fun v56 ev56 => ?_)
                  refine lv_istore (lv' := [(5, .int v56), (7, .int 1), (6, .int x13), (4, .int x4), (3, .int x3), (0, .ref h0), (1, .int p0), (2, .int p1)]) hx hb dX9_leftAtWorst_88 hl (by decide) rfl (fun ls hl => ?_)
                  obtain ⟨v57, ev57⟩ : ∃ y : Int32, y = x13 + 1 := ⟨_, rfl⟩
                  have tv57 : v57.toInt = x13.toInt + 1 := ti_add rfl ki_1 ev57 (by omega) (by omega)
                  refine lv_iinc (v := v57) (lv' := [(6, .int v57), (5, .int v56), (7, .int 1), (4, .int x4), (3, .int x3), (0, .ref h0), (1, .int p0), (2, .int p1)]) hx hb dX9_leftAtWorst_90 hl (k := 2) rfl (by rw [ev57]; rfl) (by decide) rfl (fun ls hl => ?_)
                  refine lv_goto (tgt := 17) hx hb dX9_leftAtWorst_93 (by decide) ?_
                  exact ih16 v56 v57 (by omega) (by omega) (by omega) _ _ hP hD hS ls (lv_sub hl [0, 1, 3, 4, 5, 6, 7] rfl)
        exact lp10 5 0 0 (by rw [ki_0]; decide) (by rw [ki_0]; decide) (by rw [ki_0]; decide) _ _ hP hD hS ls (lv_sub hl [0, 1, 2, 3, 4, 5, 6] rfl)
  exact lp1 5 0 0 (by rw [ki_0]; decide) (by rw [ki_0]; decide) (by rw [ki_0]; decide) _ _ hP hD hS ls (lv_sub hl [0, 1, 2, 3, 4] rfl)
set_option maxHeartbeats 4000000 in
set_option maxRecDepth 100000 in
theorem f_X9_refusalOfRow (l : Launch) (G : va_G) (cI cJ cZ cB cQ : ClassId) (sz : Nat) (h0 : Nat) (p0 : Int32) (b : Nat → Nat) (bt : Nat → Nat) (t_lines : Int32) (t_span : Int32) (t_rule : Int32) (t_odds : Int32) (t_wide : Int32) (t_high : Int32) (t_creeks : Int32) (t_houses : Int32) (t_widows : Int32) (t_acts : Int32) (bw : Nat → Nat) (w_f0 : Nat → Int64) (w_f1 : Nat → Int32) (w_f3 : Nat → Int32) (hl_t_span : 0 ≤ t_span.toInt) (hh_t_span : t_span.toInt ≤ 12) (hl_t_rule : 0 ≤ t_rule.toInt) (hh_t_rule : t_rule.toInt ≤ 3) (hl_t_odds : 0 ≤ t_odds.toInt) (hh_t_odds : t_odds.toInt ≤ 10) (hl_t_wide : 0 ≤ t_wide.toInt) (hh_t_wide : t_wide.toInt ≤ 8) (hl_t_high : 0 ≤ t_high.toInt) (hh_t_high : t_high.toInt ≤ 8) (hl_t_creeks : 0 ≤ t_creeks.toInt) (hh_t_creeks : t_creeks.toInt ≤ 12) (hl_t_houses : 0 ≤ t_houses.toInt) (hh_t_houses : t_houses.toInt ≤ 6) (hl_t_widows : 0 ≤ t_widows.toInt) (hh_t_widows : t_widows.toInt ≤ 7) (hl_t_acts : 0 ≤ t_acts.toInt) (hh_t_acts : t_acts.toInt ≤ 30) (ha_w_f1 : ai w_f1 4 0 1) (ha_w_f3 : ai w_f3 4 0 60) : CI l yX9_refusalOfRow (wl_ yX9_refusalOfRow cX9_refusalOfRow 2 (some .int)) ({ frames := 2, cells := 0, slots := 0, locals := 46 } : Room) G (TY cI cJ cZ cB cQ) [.ref h0, .int p0] [(h0, oX9 b), (b 1, oX0 bt t_lines t_span t_rule t_odds t_wide t_high t_creeks t_houses t_widows t_acts), (b 8, oX5 bw), (bw 0, .inl (cJ, 240, .inr (.inl w_f0))), (bw 1, .inl (cZ, 4, .inl w_f1)), (bw 3, .inl (cI, 4, .inl w_f3))] sz (fun (r : Int32) (u : Unit) => ((r = 0 ∧ 0 ≤ p0.toInt ∧ p0.toInt ≤ 3 ∧ tOK w_f0 (p0.toInt * 60) (w_f3 p0.toNatClampNeg).toInt t_widows.toInt ∧ (w_f3 p0.toNatClampNeg).toInt % 3 = 0) ∨ (r = -2) ∨ (r = -6))) (fun _ : Unit => [(h0, oX9 b), (b 1, oX0 bt t_lines t_span t_rule t_odds t_wide t_high t_creeks t_houses t_widows t_acts), (b 8, oX5 bw), (bw 0, .inl (cJ, 240, .inr (.inl w_f0))), (bw 1, .inl (cZ, 4, .inl w_f1)), (bw 3, .inl (cI, 4, .inl w_f3))]) 0 0 := by
  refine CI.go (cc := cX9_refusalOfRow) (maxL := 2) (ret := (some .int)) (by decide) rfl (Nat.le_of_ble_eq_true rfl) ?_
  intro p e s m below meth c A ls Q hBd hret
  obtain ⟨hx, hb, hr, hml, hts, hown, hlk, hnm, hP, hK, hD, hA, hZ, hl⟩ := hBd
  have hown : s.vm.findClass RX9 = some m.cls := hown
  have hl : lv_has ls 2 [(0, .ref h0), (1, .int p0)] := hl
  have hS : va_S A s.heap s.heap [] := va_S.rf
  refine lv_aload_n hx hb dX9_refusalOfRow_0 rfl (lv_at hl 0 rfl) ?_
  refine va_get (D := G) (ci := 9) (v := .ref (b 1)) (C := RX9) (T := TX9) (N := 11) hx hb hts iG_X9 hown hK hP 0 rfl rfl 1 (by decide) (hts _ w_352) (fun _ h9 => h9) rfl dX9_refusalOfRow_1 ?_
  refine va_getN (D := G) (ci := 0) (v := .int t_lines) (C := RX0) (T := TX0) (N := 19) hx hb hts iG_X0 hown hK hP 1 rfl rfl 0 (by decide) (nz_use hZ nw_57 rfl) (fun _ h9 => h9) rfl dX9_refusalOfRow_4 ?_
  refine lv_if_eq (tgt := 17) hx hb dX9_refusalOfRow_7 (by decide) (fun c1 => ?_) (fun c1 => ?_)
  · have c1 := i_eq rfl ki_0 c1
    refine lv_bipush (v := (-2)) hx hb dX9_refusalOfRow_17 (by decide) ?_
    exact hret _ _ _ _ (-2) () hP hD hS dX9_refusalOfRow_19 (show ((((-2) : Int32) = 0 ∧ 0 ≤ p0.toInt ∧ p0.toInt ≤ 3 ∧ tOK w_f0 (p0.toInt * 60) (w_f3 p0.toNatClampNeg).toInt t_widows.toInt ∧ (w_f3 p0.toNatClampNeg).toInt % 3 = 0) ∨ (((-2) : Int32) = -2) ∨ (((-2) : Int32) = -6)) from (Or.inr (Or.inl rfl)))
  · have c1 := i_ne rfl ki_0 c1
    refine lv_iload_n hx hb dX9_refusalOfRow_10 rfl (lv_at hl 1 rfl) ?_
    refine k_i (wc := []) (wr := [(h0, oX9 b), (b 1, oX0 bt t_lines t_span t_rule t_odds t_wide t_high t_creeks t_houses t_widows t_acts), (b 8, oX5 bw), (bw 0, .inl (cJ, 240, .inr (.inl w_f0))), (bw 1, .inl (cZ, 4, .inl w_f1)), (bw 3, .inl (cI, 4, .inl w_f3))]) hP hD hS hA [] [0, 1, 2, 3, 4, 5] rfl rfl rfl (by decide) (va_runS (As := [.int p0]) (rest := []) ⟨hx, hb, hml, hown, hts⟩ (f_X9_isSlot l G cI cJ cZ cB cQ _ p0 p0.toInt rfl) (va_cwS 1 hts (gS w_951 w_952 w_1 w_953) rfl rfl rfl hd_X9_isSlot ⟨Nat.le_of_ble_eq_true rfl, Nat.le_of_ble_eq_true rfl⟩) (mS hK hZ hP hD [] rfl rfl [.int p0]) rfl rfl hl.1 rfl (lv_room (Nat.le_of_ble_eq_true rfl)) dX9_refusalOfRow_11 ⟨Nat.le_of_ble_eq_true rfl, Nat.le_of_ble_eq_true rfl⟩) (fun r2 u3 H locs hw4 hP hD hS => ?_)
    try dsimp only at hw4
    have hP : va_P G vwCl [(h0, oX9 b), (b 1, oX0 bt t_lines t_span t_rule t_odds t_wide t_high t_creeks t_houses t_widows t_acts), (b 8, oX5 bw), (bw 0, .inl (cJ, 240, .inr (.inl w_f0))), (bw 1, .inl (cZ, 4, .inl w_f1)), (bw 3, .inl (cI, 4, .inl w_f3))] H := hP
    have hD : va_D A [(h0, oX9 b), (b 1, oX0 bt t_lines t_span t_rule t_odds t_wide t_high t_creeks t_houses t_widows t_acts), (b 8, oX5 bw), (bw 0, .inl (cJ, 240, .inr (.inl w_f0))), (bw 1, .inl (cZ, 4, .inl w_f1)), (bw 3, .inl (cI, 4, .inl w_f3))] := hD
    rcases hw4 with ⟨rfl, a6, a7⟩ | ⟨rfl, a8⟩
    · skip
      refine lv_if_ne (tgt := 20) hx hb dX9_refusalOfRow_14 (by decide) (fun c9 => ?_) (fun c9 => absurd c9 (by decide))
      refine lv_aload_n hx hb dX9_refusalOfRow_20 rfl (lv_at hl 0 rfl) ?_
      refine va_get (D := G) (ci := 9) (v := .ref (b 8)) (C := RX9) (T := TX9) (N := 11) hx hb hts iG_X9 hown hK hP 0 rfl rfl 8 (by decide) (hts _ w_359) (fun _ h9 => h9) rfl dX9_refusalOfRow_21 ?_
      refine lv_iload_n hx hb dX9_refusalOfRow_24 rfl (lv_at hl 1 rfl) ?_
      refine k_i (wc := [(b 8, oX5 bw), (bw 1, .inl (cZ, 4, .inl w_f1))]) (wr := [(h0, oX9 b), (b 1, oX0 bt t_lines t_span t_rule t_odds t_wide t_high t_creeks t_houses t_widows t_acts), (bw 0, .inl (cJ, 240, .inr (.inl w_f0))), (bw 3, .inl (cI, 4, .inl w_f3))]) hP hD hS hA [2, 4] [0, 1, 3, 5] rfl rfl rfl (by decide) (va_runVN (As := [.int p0]) (rest := []) ⟨hx, hb, hml, hown, hts⟩ (f_X5_empty l G cI cJ cZ cB cQ _ (b 8) p0 bw w_f1 (by omega) (by omega) ha_w_f1) ⟨va_cnB (host := "WidowRoads") 1 hts (gW w_957) rfl rfl rfl (nz_nw hZ nw_954 rfl) (hts _ w_9) hd_X5_empty ⟨Nat.le_of_ble_eq_true rfl, Nat.le_of_ble_eq_true rfl⟩, (hts _ w_956), (hts _ wp_60)⟩ (mV hK hZ hP hD [2, 4] rfl rfl [.int p0] 2 5 rfl rfl) rfl rfl hl.1 rfl (lv_room (Nat.le_of_ble_eq_true rfl)) dX9_refusalOfRow_25 ⟨Nat.le_of_ble_eq_true rfl, Nat.le_of_ble_eq_true rfl⟩) (fun r10 u11 H locs hw12 hP hD hS => ?_)
      try dsimp only at hw12
      have hP : va_P G vwCl [(h0, oX9 b), (b 1, oX0 bt t_lines t_span t_rule t_odds t_wide t_high t_creeks t_houses t_widows t_acts), (bw 0, .inl (cJ, 240, .inr (.inl w_f0))), (bw 3, .inl (cI, 4, .inl w_f3)), (b 8, oX5 bw), (bw 1, .inl (cZ, 4, .inl w_f1))] H := hP
      have hD : va_D A [(h0, oX9 b), (b 1, oX0 bt t_lines t_span t_rule t_odds t_wide t_high t_creeks t_houses t_widows t_acts), (bw 0, .inl (cJ, 240, .inr (.inl w_f0))), (bw 3, .inl (cI, 4, .inl w_f3)), (b 8, oX5 bw), (bw 1, .inl (cZ, 4, .inl w_f1))] := hD
      rcases hw12 with ⟨rfl, a14⟩ | ⟨rfl, a15⟩
      · skip
        refine lv_if_eq (tgt := 34) hx hb dX9_refusalOfRow_28 (by decide) (fun c16 => absurd c16 (by decide)) (fun c16 => ?_)
        refine lv_bipush (v := (-6)) hx hb dX9_refusalOfRow_31 (by decide) ?_
        exact hret _ _ _ _ (-6) () (hP.sub (ws' := [(h0, oX9 b), (b 1, oX0 bt t_lines t_span t_rule t_odds t_wide t_high t_creeks t_houses t_widows t_acts), (b 8, oX5 bw), (bw 0, .inl (cJ, 240, .inr (.inl w_f0))), (bw 1, .inl (cZ, 4, .inl w_f1)), (bw 3, .inl (cI, 4, .inl w_f3))]) [0, 1, 4, 2, 5, 3] rfl) (hD.sub (ws' := [(h0, oX9 b), (b 1, oX0 bt t_lines t_span t_rule t_odds t_wide t_high t_creeks t_houses t_widows t_acts), (b 8, oX5 bw), (bw 0, .inl (cJ, 240, .inr (.inl w_f0))), (bw 1, .inl (cZ, 4, .inl w_f1)), (bw 3, .inl (cI, 4, .inl w_f3))]) [0, 1, 4, 2, 5, 3] rfl rfl) hS dX9_refusalOfRow_33 (show ((((-6) : Int32) = 0 ∧ 0 ≤ p0.toInt ∧ p0.toInt ≤ 3 ∧ tOK w_f0 (p0.toInt * 60) (w_f3 p0.toNatClampNeg).toInt t_widows.toInt ∧ (w_f3 p0.toNatClampNeg).toInt % 3 = 0) ∨ (((-6) : Int32) = -2) ∨ (((-6) : Int32) = -6)) from (Or.inr (Or.inr rfl)))
      · skip
        refine lv_if_eq (tgt := 34) hx hb dX9_refusalOfRow_28 (by decide) (fun c17 => ?_) (fun c17 => absurd (by decide) c17)
        refine lv_aload_n hx hb dX9_refusalOfRow_34 rfl (lv_at hl 0 rfl) ?_
        refine va_get (D := G) (ci := 9) (v := .ref (b 8)) (C := RX9) (T := TX9) (N := 11) hx hb hts iG_X9 hown hK hP 0 rfl rfl 8 (by decide) (hts _ w_359) (fun _ h9 => h9) rfl dX9_refusalOfRow_35 ?_
        refine lv_iload_n hx hb dX9_refusalOfRow_38 rfl (lv_at hl 1 rfl) ?_
        refine lv_aload_n hx hb dX9_refusalOfRow_39 rfl (lv_at hl 0 rfl) ?_
        refine va_get (D := G) (ci := 9) (v := .ref (b 1)) (C := RX9) (T := TX9) (N := 11) hx hb hts iG_X9 hown hK hP 0 rfl rfl 1 (by decide) (hts _ w_352) (fun _ h9 => h9) rfl dX9_refusalOfRow_40 ?_
        refine k_i (wc := [(b 8, oX5 bw), (bw 0, .inl (cJ, 240, .inr (.inl w_f0))), (bw 3, .inl (cI, 4, .inl w_f3)), (b 1, oX0 bt t_lines t_span t_rule t_odds t_wide t_high t_creeks t_houses t_widows t_acts)]) (wr := [(h0, oX9 b), (bw 1, .inl (cZ, 4, .inl w_f1))]) hP hD hS hA [4, 2, 3, 1] [0, 5] rfl rfl rfl (by decide) (va_runVN (As := [.int p0, .ref (b 1)]) (rest := []) ⟨hx, hb, hml, hown, hts⟩ (f_X5_tellsOf l G cI cJ cZ cB cQ _ (b 8) p0 (b 1) bw w_f0 w_f3 bt t_lines t_span t_rule t_odds t_wide t_high t_creeks t_houses t_widows t_acts (by omega) (by omega) ha_w_f3 hl_t_span hh_t_span hl_t_rule hh_t_rule hl_t_odds hh_t_odds hl_t_wide hh_t_wide hl_t_high hh_t_high hl_t_creeks hh_t_creeks hl_t_houses hh_t_houses hl_t_widows hh_t_widows hl_t_acts hh_t_acts) ⟨va_cnB (host := "WidowRoads") 2 hts (gW w_961) rfl rfl rfl (nz_nw hZ nw_958 rfl) (hts _ w_9) hd_X5_tellsOf ⟨Nat.le_of_ble_eq_true rfl, Nat.le_of_ble_eq_true rfl⟩, (hts _ w_960), (hts _ wp_61)⟩ (mV hK hZ hP hD [4, 2, 3, 1] rfl rfl [.int p0, .ref (b 1)] 4 5 rfl rfl) rfl rfl hl.1 rfl (lv_room (Nat.le_of_ble_eq_true rfl)) dX9_refusalOfRow_43 ⟨Nat.le_of_ble_eq_true rfl, Nat.le_of_ble_eq_true rfl⟩) (fun r18 u19 H locs hw20 hP hD hS => ?_)
        try dsimp only at hw20
        have hP : va_P G vwCl [(h0, oX9 b), (bw 1, .inl (cZ, 4, .inl w_f1)), (b 8, oX5 bw), (bw 0, .inl (cJ, 240, .inr (.inl w_f0))), (bw 3, .inl (cI, 4, .inl w_f3)), (b 1, oX0 bt t_lines t_span t_rule t_odds t_wide t_high t_creeks t_houses t_widows t_acts)] H := hP
        have hD : va_D A [(h0, oX9 b), (bw 1, .inl (cZ, 4, .inl w_f1)), (b 8, oX5 bw), (bw 0, .inl (cJ, 240, .inr (.inl w_f0))), (bw 3, .inl (cI, 4, .inl w_f3)), (b 1, oX0 bt t_lines t_span t_rule t_odds t_wide t_high t_creeks t_houses t_widows t_acts)] := hD
        rcases hw20 with ⟨rfl, a22, a23⟩ | rfl
        · skip
          refine lv_if_eq (tgt := 53) hx hb dX9_refusalOfRow_46 (by decide) (fun c24 => absurd c24 (by decide)) (fun c24 => ?_)
          refine lv_iconst (v := 0) hx hb dX9_refusalOfRow_49 (by decide) ?_
          refine lv_goto (tgt := 55) hx hb dX9_refusalOfRow_50 (by decide) ?_
          exact hret _ _ _ _ 0 () (hP.sub (ws' := [(h0, oX9 b), (b 1, oX0 bt t_lines t_span t_rule t_odds t_wide t_high t_creeks t_houses t_widows t_acts), (b 8, oX5 bw), (bw 0, .inl (cJ, 240, .inr (.inl w_f0))), (bw 1, .inl (cZ, 4, .inl w_f1)), (bw 3, .inl (cI, 4, .inl w_f3))]) [0, 5, 2, 3, 1, 4] rfl) (hD.sub (ws' := [(h0, oX9 b), (b 1, oX0 bt t_lines t_span t_rule t_odds t_wide t_high t_creeks t_houses t_widows t_acts), (b 8, oX5 bw), (bw 0, .inl (cJ, 240, .inr (.inl w_f0))), (bw 1, .inl (cZ, 4, .inl w_f1)), (bw 3, .inl (cI, 4, .inl w_f3))]) [0, 5, 2, 3, 1, 4] rfl rfl) hS dX9_refusalOfRow_55 (show (((0 : Int32) = 0 ∧ 0 ≤ p0.toInt ∧ p0.toInt ≤ 3 ∧ tOK w_f0 (p0.toInt * 60) (w_f3 p0.toNatClampNeg).toInt t_widows.toInt ∧ (w_f3 p0.toNatClampNeg).toInt % 3 = 0) ∨ ((0 : Int32) = -2) ∨ ((0 : Int32) = -6)) from (Or.inl ⟨rfl, by first | assumption | omega, by first | assumption | omega, by first | assumption | omega, by first | assumption | omega⟩))
        · skip
          refine lv_if_eq (tgt := 53) hx hb dX9_refusalOfRow_46 (by decide) (fun c25 => ?_) (fun c25 => absurd (by decide) c25)
          refine lv_bipush (v := (-2)) hx hb dX9_refusalOfRow_53 (by decide) ?_
          exact hret _ _ _ _ (-2) () (hP.sub (ws' := [(h0, oX9 b), (b 1, oX0 bt t_lines t_span t_rule t_odds t_wide t_high t_creeks t_houses t_widows t_acts), (b 8, oX5 bw), (bw 0, .inl (cJ, 240, .inr (.inl w_f0))), (bw 1, .inl (cZ, 4, .inl w_f1)), (bw 3, .inl (cI, 4, .inl w_f3))]) [0, 5, 2, 3, 1, 4] rfl) (hD.sub (ws' := [(h0, oX9 b), (b 1, oX0 bt t_lines t_span t_rule t_odds t_wide t_high t_creeks t_houses t_widows t_acts), (b 8, oX5 bw), (bw 0, .inl (cJ, 240, .inr (.inl w_f0))), (bw 1, .inl (cZ, 4, .inl w_f1)), (bw 3, .inl (cI, 4, .inl w_f3))]) [0, 5, 2, 3, 1, 4] rfl rfl) hS dX9_refusalOfRow_55 (show ((((-2) : Int32) = 0 ∧ 0 ≤ p0.toInt ∧ p0.toInt ≤ 3 ∧ tOK w_f0 (p0.toInt * 60) (w_f3 p0.toNatClampNeg).toInt t_widows.toInt ∧ (w_f3 p0.toNatClampNeg).toInt % 3 = 0) ∨ (((-2) : Int32) = -2) ∨ (((-2) : Int32) = -6)) from (Or.inr (Or.inl rfl)))
    · skip
      refine lv_if_ne (tgt := 20) hx hb dX9_refusalOfRow_14 (by decide) (fun c26 => absurd (by decide) c26) (fun c26 => ?_)
      refine lv_bipush (v := (-2)) hx hb dX9_refusalOfRow_17 (by decide) ?_
      exact hret _ _ _ _ (-2) () hP hD hS dX9_refusalOfRow_19 (show ((((-2) : Int32) = 0 ∧ 0 ≤ p0.toInt ∧ p0.toInt ≤ 3 ∧ tOK w_f0 (p0.toInt * 60) (w_f3 p0.toNatClampNeg).toInt t_widows.toInt ∧ (w_f3 p0.toNatClampNeg).toInt % 3 = 0) ∨ (((-2) : Int32) = -2) ∨ (((-2) : Int32) = -6)) from (Or.inr (Or.inl rfl)))
set_option maxHeartbeats 4000000 in
set_option maxRecDepth 100000 in
theorem f_X9_refusalOfSeen (l : Launch) (G : va_G) (cI cJ cZ cB cQ : ClassId) (sz : Nat) (h0 : Nat) (p0 : Int32) (p1 : Int32) (b : Nat → Nat) (bt : Nat → Nat) (t_lines : Int32) (t_span : Int32) (t_rule : Int32) (t_odds : Int32) (t_wide : Int32) (t_high : Int32) (t_creeks : Int32) (t_houses : Int32) (t_widows : Int32) (t_acts : Int32) (bw : Nat → Nat) (w_f0 : Nat → Int64) (w_f1 : Nat → Int32) (w_f3 : Nat → Int32) (hl_t_span : 0 ≤ t_span.toInt) (hh_t_span : t_span.toInt ≤ 12) (hl_t_rule : 0 ≤ t_rule.toInt) (hh_t_rule : t_rule.toInt ≤ 3) (hl_t_odds : 0 ≤ t_odds.toInt) (hh_t_odds : t_odds.toInt ≤ 10) (hl_t_wide : 0 ≤ t_wide.toInt) (hh_t_wide : t_wide.toInt ≤ 8) (hl_t_high : 0 ≤ t_high.toInt) (hh_t_high : t_high.toInt ≤ 8) (hl_t_creeks : 0 ≤ t_creeks.toInt) (hh_t_creeks : t_creeks.toInt ≤ 12) (hl_t_houses : 0 ≤ t_houses.toInt) (hh_t_houses : t_houses.toInt ≤ 6) (hl_t_widows : 0 ≤ t_widows.toInt) (hh_t_widows : t_widows.toInt ≤ 7) (hl_t_acts : 0 ≤ t_acts.toInt) (hh_t_acts : t_acts.toInt ≤ 30) (ha_w_f1 : ai w_f1 4 0 1) (ha_w_f3 : ai w_f3 4 0 60) : CI l yX9_refusalOfSeen (wl_ yX9_refusalOfSeen cX9_refusalOfSeen 3 (some .int)) ({ frames := 3, cells := 0, slots := 0, locals := 67 } : Room) G (TY cI cJ cZ cB cQ) [.ref h0, .int p0, .int p1] [(h0, oX9 b), (b 1, oX0 bt t_lines t_span t_rule t_odds t_wide t_high t_creeks t_houses t_widows t_acts), (b 8, oX5 bw), (bw 0, .inl (cJ, 240, .inr (.inl w_f0))), (bw 1, .inl (cZ, 4, .inl w_f1)), (bw 3, .inl (cI, 4, .inl w_f3))] sz (fun (r : Int32) (u : Unit) => ((r = 0 ∧ 0 ≤ p0.toInt ∧ p0.toInt ≤ 3 ∧ tOK w_f0 (p0.toInt * 60) (w_f3 p0.toNatClampNeg).toInt t_widows.toInt ∧ (w_f3 p0.toNatClampNeg).toInt % 3 = 0 ∧ 0 ≤ p1.toInt ∧ p1.toInt < t_widows.toInt) ∨ (r = -2) ∨ (r = -6))) (fun _ : Unit => [(h0, oX9 b), (b 1, oX0 bt t_lines t_span t_rule t_odds t_wide t_high t_creeks t_houses t_widows t_acts), (b 8, oX5 bw), (bw 0, .inl (cJ, 240, .inr (.inl w_f0))), (bw 1, .inl (cZ, 4, .inl w_f1)), (bw 3, .inl (cI, 4, .inl w_f3))]) 0 0 := by
  refine CI.go (cc := cX9_refusalOfSeen) (maxL := 3) (ret := (some .int)) (by decide) rfl (Nat.le_of_ble_eq_true rfl) ?_
  intro p e s m below meth c A ls Q hBd hret
  obtain ⟨hx, hb, hr, hml, hts, hown, hlk, hnm, hP, hK, hD, hA, hZ, hl⟩ := hBd
  have hown : s.vm.findClass RX9 = some m.cls := hown
  have hl : lv_has ls 3 [(0, .ref h0), (1, .int p0), (2, .int p1)] := hl
  have hS : va_S A s.heap s.heap [] := va_S.rf
  refine lv_aload_n hx hb dX9_refusalOfSeen_0 rfl (lv_at hl 0 rfl) ?_
  refine va_get (D := G) (ci := 9) (v := .ref (b 1)) (C := RX9) (T := TX9) (N := 11) hx hb hts iG_X9 hown hK hP 0 rfl rfl 1 (by decide) (hts _ w_352) (fun _ h9 => h9) rfl dX9_refusalOfSeen_1 ?_
  refine lv_iload_n hx hb dX9_refusalOfSeen_4 rfl (lv_at hl 2 rfl) ?_
  obtain ⟨v1, ev1⟩ : ∃ y : Int64, p1.toInt64 = y := ⟨_, rfl⟩
  have tv1 : v1.toInt = p1.toInt := ti_wide rfl ev1
  refine lv_i2l (v := v1) hx hb dX9_refusalOfSeen_5 ev1 ?_
  refine k_i (wc := [(b 1, oX0 bt t_lines t_span t_rule t_odds t_wide t_high t_creeks t_houses t_widows t_acts)]) (wr := [(h0, oX9 b), (b 8, oX5 bw), (bw 0, .inl (cJ, 240, .inr (.inl w_f0))), (bw 1, .inl (cZ, 4, .inl w_f1)), (bw 3, .inl (cI, 4, .inl w_f3))]) hP hD hS hA [1] [0, 2, 3, 4, 5] rfl rfl rfl (by decide) (va_runVN (As := [.long v1]) (rest := []) ⟨hx, hb, hml, hown, hts⟩ (f_X0_hasWidow l G cI cJ cZ cB cQ _ (b 1) v1 p1.toInt bt t_lines t_span t_rule t_odds t_wide t_high t_creeks t_houses t_widows t_acts tv1 hl_t_span hh_t_span hl_t_rule hh_t_rule hl_t_odds hh_t_odds hl_t_wide hh_t_wide hl_t_high hh_t_high hl_t_creeks hh_t_creeks hl_t_houses hh_t_houses hl_t_widows hh_t_widows hl_t_acts hh_t_acts) ⟨va_cnB (host := "WidowRoads") 1 hts (gW w_671) rfl rfl rfl (nz_nw hZ nw_668 rfl) (hts _ w_4) hd_X0_hasWidow ⟨Nat.le_of_ble_eq_true rfl, Nat.le_of_ble_eq_true rfl⟩, (hts _ w_670), (hts _ wp_35)⟩ (mV hK hZ hP hD [1] rfl rfl [.long v1] 1 0 rfl rfl) rfl rfl hl.1 rfl (lv_room (Nat.le_of_ble_eq_true rfl)) dX9_refusalOfSeen_6 ⟨Nat.le_of_ble_eq_true rfl, Nat.le_of_ble_eq_true rfl⟩) (fun r2 u3 H locs hw4 hP hD hS => ?_)
  try dsimp only at hw4
  have hP : va_P G vwCl [(h0, oX9 b), (b 8, oX5 bw), (bw 0, .inl (cJ, 240, .inr (.inl w_f0))), (bw 1, .inl (cZ, 4, .inl w_f1)), (bw 3, .inl (cI, 4, .inl w_f3)), (b 1, oX0 bt t_lines t_span t_rule t_odds t_wide t_high t_creeks t_houses t_widows t_acts)] H := hP
  have hD : va_D A [(h0, oX9 b), (b 8, oX5 bw), (bw 0, .inl (cJ, 240, .inr (.inl w_f0))), (bw 1, .inl (cZ, 4, .inl w_f1)), (bw 3, .inl (cI, 4, .inl w_f3)), (b 1, oX0 bt t_lines t_span t_rule t_odds t_wide t_high t_creeks t_houses t_widows t_acts)] := hD
  rcases hw4 with ⟨rfl, a6, a7⟩ | ⟨rfl, a8⟩
  · skip
    refine lv_if_eq (tgt := 20) hx hb dX9_refusalOfSeen_9 (by decide) (fun c9 => absurd c9 (by decide)) (fun c9 => ?_)
    refine lv_aload_n hx hb dX9_refusalOfSeen_12 rfl (lv_at hl 0 rfl) ?_
    refine lv_iload_n hx hb dX9_refusalOfSeen_13 rfl (lv_at hl 1 rfl) ?_
    refine k_i (wc := [(h0, oX9 b), (b 1, oX0 bt t_lines t_span t_rule t_odds t_wide t_high t_creeks t_houses t_widows t_acts), (b 8, oX5 bw), (bw 0, .inl (cJ, 240, .inr (.inl w_f0))), (bw 1, .inl (cZ, 4, .inl w_f1)), (bw 3, .inl (cI, 4, .inl w_f3))]) (wr := []) hP hD hS hA [0, 5, 1, 2, 3, 4] [] rfl rfl rfl (by decide) (va_runV (As := [.int p0]) (rest := []) ⟨hx, hb, hml, hown, hts⟩ (f_X9_refusalOfRow l G cI cJ cZ cB cQ _ h0 p0 b bt t_lines t_span t_rule t_odds t_wide t_high t_creeks t_houses t_widows t_acts bw w_f0 w_f1 w_f3 hl_t_span hh_t_span hl_t_rule hh_t_rule hl_t_odds hh_t_odds hl_t_wide hh_t_wide hl_t_high hh_t_high hl_t_creeks hh_t_creeks hl_t_houses hh_t_houses hl_t_widows hh_t_widows hl_t_acts hh_t_acts ha_w_f1 ha_w_f3) (cwV 1 hts (gV w_947 w_949 wp_59 w_1 w_950) rfl rfl rfl ⟨rfl, hd_X9_refusalOfRow⟩ ⟨Nat.le_of_ble_eq_true rfl, Nat.le_of_ble_eq_true rfl⟩) (mV hK hZ hP hD [0, 5, 1, 2, 3, 4] rfl rfl [.int p0] 0 9 rfl rfl) rfl rfl hl.1 rfl (lv_room (Nat.le_of_ble_eq_true rfl)) dX9_refusalOfSeen_14 ⟨Nat.le_of_ble_eq_true rfl, Nat.le_of_ble_eq_true rfl⟩) (fun r10 u11 H locs hw12 hP hD hS => ?_)
    try dsimp only at hw12
    have hP : va_P G vwCl [(h0, oX9 b), (b 1, oX0 bt t_lines t_span t_rule t_odds t_wide t_high t_creeks t_houses t_widows t_acts), (b 8, oX5 bw), (bw 0, .inl (cJ, 240, .inr (.inl w_f0))), (bw 1, .inl (cZ, 4, .inl w_f1)), (bw 3, .inl (cI, 4, .inl w_f3))] H := hP
    have hD : va_D A [(h0, oX9 b), (b 1, oX0 bt t_lines t_span t_rule t_odds t_wide t_high t_creeks t_houses t_widows t_acts), (b 8, oX5 bw), (bw 0, .inl (cJ, 240, .inr (.inl w_f0))), (bw 1, .inl (cZ, 4, .inl w_f1)), (bw 3, .inl (cI, 4, .inl w_f3))] := hD
    rcases hw12 with ⟨rfl, a14, a15, a16, a17⟩ | rfl | rfl
    · skip
      refine lv_goto (tgt := 22) hx hb dX9_refusalOfSeen_17 (by decide) ?_
      exact hret _ _ _ _ 0 () hP hD hS dX9_refusalOfSeen_22 (show (((0 : Int32) = 0 ∧ 0 ≤ p0.toInt ∧ p0.toInt ≤ 3 ∧ tOK w_f0 (p0.toInt * 60) (w_f3 p0.toNatClampNeg).toInt t_widows.toInt ∧ (w_f3 p0.toNatClampNeg).toInt % 3 = 0 ∧ 0 ≤ p1.toInt ∧ p1.toInt < t_widows.toInt) ∨ ((0 : Int32) = -2) ∨ ((0 : Int32) = -6)) from (Or.inl ⟨rfl, by first | assumption | omega, by first | assumption | omega, by first | assumption | omega, by first | assumption | omega, by first | assumption | omega, by first | assumption | omega⟩))
    · skip
      refine lv_goto (tgt := 22) hx hb dX9_refusalOfSeen_17 (by decide) ?_
      exact hret _ _ _ _ (-2) () hP hD hS dX9_refusalOfSeen_22 (show ((((-2) : Int32) = 0 ∧ 0 ≤ p0.toInt ∧ p0.toInt ≤ 3 ∧ tOK w_f0 (p0.toInt * 60) (w_f3 p0.toNatClampNeg).toInt t_widows.toInt ∧ (w_f3 p0.toNatClampNeg).toInt % 3 = 0 ∧ 0 ≤ p1.toInt ∧ p1.toInt < t_widows.toInt) ∨ (((-2) : Int32) = -2) ∨ (((-2) : Int32) = -6)) from (Or.inr (Or.inl rfl)))
    · skip
      refine lv_goto (tgt := 22) hx hb dX9_refusalOfSeen_17 (by decide) ?_
      exact hret _ _ _ _ (-6) () hP hD hS dX9_refusalOfSeen_22 (show ((((-6) : Int32) = 0 ∧ 0 ≤ p0.toInt ∧ p0.toInt ≤ 3 ∧ tOK w_f0 (p0.toInt * 60) (w_f3 p0.toNatClampNeg).toInt t_widows.toInt ∧ (w_f3 p0.toNatClampNeg).toInt % 3 = 0 ∧ 0 ≤ p1.toInt ∧ p1.toInt < t_widows.toInt) ∨ (((-6) : Int32) = -2) ∨ (((-6) : Int32) = -6)) from (Or.inr (Or.inr rfl)))
  · skip
    refine lv_if_eq (tgt := 20) hx hb dX9_refusalOfSeen_9 (by decide) (fun c18 => ?_) (fun c18 => absurd (by decide) c18)
    refine lv_bipush (v := (-2)) hx hb dX9_refusalOfSeen_20 (by decide) ?_
    exact hret _ _ _ _ (-2) () (hP.sub (ws' := [(h0, oX9 b), (b 1, oX0 bt t_lines t_span t_rule t_odds t_wide t_high t_creeks t_houses t_widows t_acts), (b 8, oX5 bw), (bw 0, .inl (cJ, 240, .inr (.inl w_f0))), (bw 1, .inl (cZ, 4, .inl w_f1)), (bw 3, .inl (cI, 4, .inl w_f3))]) [0, 5, 1, 2, 3, 4] rfl) (hD.sub (ws' := [(h0, oX9 b), (b 1, oX0 bt t_lines t_span t_rule t_odds t_wide t_high t_creeks t_houses t_widows t_acts), (b 8, oX5 bw), (bw 0, .inl (cJ, 240, .inr (.inl w_f0))), (bw 1, .inl (cZ, 4, .inl w_f1)), (bw 3, .inl (cI, 4, .inl w_f3))]) [0, 5, 1, 2, 3, 4] rfl rfl) hS dX9_refusalOfSeen_22 (show ((((-2) : Int32) = 0 ∧ 0 ≤ p0.toInt ∧ p0.toInt ≤ 3 ∧ tOK w_f0 (p0.toInt * 60) (w_f3 p0.toNatClampNeg).toInt t_widows.toInt ∧ (w_f3 p0.toNatClampNeg).toInt % 3 = 0 ∧ 0 ≤ p1.toInt ∧ p1.toInt < t_widows.toInt) ∨ (((-2) : Int32) = -2) ∨ (((-2) : Int32) = -6)) from (Or.inr (Or.inl rfl)))
set_option maxHeartbeats 4000000 in
set_option maxRecDepth 100000 in
theorem f_X9_facesFitting (l : Launch) (G : va_G) (cI cJ cZ cB cQ : ClassId) (sz : Nat) (h0 : Nat) (p0 : Int32) (p1 : Int32) (b : Nat → Nat) (o_f10 : Nat → Int32) (bt : Nat → Nat) (t_lines : Int32) (t_span : Int32) (t_rule : Int32) (t_odds : Int32) (t_wide : Int32) (t_high : Int32) (t_creeks : Int32) (t_houses : Int32) (t_widows : Int32) (t_acts : Int32) (t_f10 : Nat → Int32) (t_f11 : Nat → Int32) (t_f12 : Nat → Int32) (t_f13 : Nat → Int32) (t_f14 : Nat → Int32) (t_f15 : Nat → Int32) (t_f16 : Nat → Int32) (t_f17 : Nat → Int32) (t_f18 : Nat → Int32) (u_rule : Int32) (u_walkers : Int32) (u_creeks : Int64) (u_widow : Int32) (u_faces : Int32) (u_turn : Int32) (bs : Nat → Nat) (s_field : Int64) (s_houses : Int32) (s_f0 : Nat → Int32) (s_f1 : Nat → Int32) (s_f2 : Nat → Int32) (s_f3 : Nat → Int64) (s_f4 : Nat → Int32) (s_f5 : Nat → Int32) (s_f6 : Nat → Int32) (s_f7 : Nat → Int64) (s_f8 : Nat → Int64) (s_f9 : Nat → Int64) (bw : Nat → Nat) (w_f0 : Nat → Int64) (w_f3 : Nat → Int32) (qp0_l : 0 ≤ p0.toInt) (qp0_h : p0.toInt ≤ 3) (qp1_l : 0 ≤ p1.toInt) (qp1_h : p1.toInt ≤ 6) (hw1 : p1.toInt < t_widows.toInt) (ht : tOK w_f0 (p0.toInt * 60) (w_f3 p0.toNatClampNeg).toInt t_widows.toInt) (hm3 : (w_f3 p0.toNatClampNeg).toInt % 3 = 0) (hl_t_span : 0 ≤ t_span.toInt) (hh_t_span : t_span.toInt ≤ 12) (hl_t_rule : 0 ≤ t_rule.toInt) (hh_t_rule : t_rule.toInt ≤ 3) (hl_t_odds : 0 ≤ t_odds.toInt) (hh_t_odds : t_odds.toInt ≤ 10) (hl_t_wide : 0 ≤ t_wide.toInt) (hh_t_wide : t_wide.toInt ≤ 8) (hl_t_high : 0 ≤ t_high.toInt) (hh_t_high : t_high.toInt ≤ 8) (hl_t_creeks : 0 ≤ t_creeks.toInt) (hh_t_creeks : t_creeks.toInt ≤ 12) (hl_t_houses : 0 ≤ t_houses.toInt) (hh_t_houses : t_houses.toInt ≤ 6) (hl_t_widows : 0 ≤ t_widows.toInt) (hh_t_widows : t_widows.toInt ≤ 7) (hl_t_acts : 0 ≤ t_acts.toInt) (hh_t_acts : t_acts.toInt ≤ 30) (ha_t_f14 : ai t_f14 7 (-2147483648) 40) (ha_t_f16 : ai t_f16 7 (-2147483648) 8) (hl_s_houses : 0 ≤ s_houses.toInt) (hh_s_houses : s_houses.toInt ≤ 6) (ha_s_f1 : ai s_f1 7 (-1) 40) (ha_w_f3 : ai w_f3 4 0 60) : CI l yX9_facesFitting (wl_ yX9_facesFitting cX9_facesFitting 6 (some .int)) ({ frames := 4, cells := 0, slots := 0, locals := 105 } : Room) G (TY cI cJ cZ cB cQ) [.ref h0, .int p0, .int p1] [(h0, oX9 b), (b 10, .inl (cI, 164, .inl o_f10)), (b 1, oX0 bt t_lines t_span t_rule t_odds t_wide t_high t_creeks t_houses t_widows t_acts), (bt 10, .inl (cI, 12, .inl t_f10)), (bt 11, .inl (cI, 6, .inl t_f11)), (bt 12, .inl (cI, 7, .inl t_f12)), (bt 13, .inl (cI, 7, .inl t_f13)), (bt 14, .inl (cI, 7, .inl t_f14)), (bt 15, .inl (cI, 7, .inl t_f15)), (bt 16, .inl (cI, 7, .inl t_f16)), (bt 17, .inl (cI, 56, .inl t_f17)), (bt 18, .inl (cI, 30, .inl t_f18)), (b 3, oX7 z0 u_rule u_walkers u_creeks u_widow u_faces u_turn), (b 5, oX6 bs s_field s_houses), (bs 0, .inl (cI, 287, .inl s_f0)), (bs 1, .inl (cI, 7, .inl s_f1)), (bs 2, .inl (cI, 7, .inl s_f2)), (bs 3, .inl (cJ, 7, .inr (.inl s_f3))), (bs 4, .inl (cI, 7, .inl s_f4)), (bs 5, .inl (cI, 6, .inl s_f5)), (bs 6, .inl (cI, 78, .inl s_f6)), (bs 7, .inl (cJ, 13, .inr (.inl s_f7))), (bs 8, .inl (cJ, 13, .inr (.inl s_f8))), (bs 9, .inl (cJ, 13, .inr (.inl s_f9))), (b 8, oX5 bw), (bw 0, .inl (cJ, 240, .inr (.inl w_f0))), (bw 3, .inl (cI, 4, .inl w_f3))] sz (fun (r : Int32) (u : (Nat → Int32) × Int32 × Int32 × Int64 × Int32 × Int32 × Int32 × Int64 × Int32 × (Nat → Int32) × (Nat → Int32) × (Nat → Int32) × (Nat → Int64) × (Nat → Int32) × (Nat → Int32) × (Nat → Int32) × (Nat → Int64) × (Nat → Int64) × (Nat → Int64)) => 0 ≤ u.2.2.2.2.2.2.2.2.1.toInt ∧ u.2.2.2.2.2.2.2.2.1.toInt ≤ 6 ∧ ai u.2.2.2.2.2.2.2.2.2.2.1 7 (-1) 40) (fun u : (Nat → Int32) × Int32 × Int32 × Int64 × Int32 × Int32 × Int32 × Int64 × Int32 × (Nat → Int32) × (Nat → Int32) × (Nat → Int32) × (Nat → Int64) × (Nat → Int32) × (Nat → Int32) × (Nat → Int32) × (Nat → Int64) × (Nat → Int64) × (Nat → Int64) => [(h0, oX9 b), (b 10, .inl (cI, 164, .inl u.1)), (b 1, oX0 bt t_lines t_span t_rule t_odds t_wide t_high t_creeks t_houses t_widows t_acts), (bt 10, .inl (cI, 12, .inl t_f10)), (bt 11, .inl (cI, 6, .inl t_f11)), (bt 12, .inl (cI, 7, .inl t_f12)), (bt 13, .inl (cI, 7, .inl t_f13)), (bt 14, .inl (cI, 7, .inl t_f14)), (bt 15, .inl (cI, 7, .inl t_f15)), (bt 16, .inl (cI, 7, .inl t_f16)), (bt 17, .inl (cI, 56, .inl t_f17)), (bt 18, .inl (cI, 30, .inl t_f18)), (b 3, oX7 z0 u.2.1 u.2.2.1 u.2.2.2.1 u.2.2.2.2.1 u.2.2.2.2.2.1 u.2.2.2.2.2.2.1), (b 5, oX6 bs u.2.2.2.2.2.2.2.1 u.2.2.2.2.2.2.2.2.1), (bs 0, .inl (cI, 287, .inl u.2.2.2.2.2.2.2.2.2.1)), (bs 1, .inl (cI, 7, .inl u.2.2.2.2.2.2.2.2.2.2.1)), (bs 2, .inl (cI, 7, .inl u.2.2.2.2.2.2.2.2.2.2.2.1)), (bs 3, .inl (cJ, 7, .inr (.inl u.2.2.2.2.2.2.2.2.2.2.2.2.1))), (bs 4, .inl (cI, 7, .inl u.2.2.2.2.2.2.2.2.2.2.2.2.2.1)), (bs 5, .inl (cI, 6, .inl u.2.2.2.2.2.2.2.2.2.2.2.2.2.2.1)), (bs 6, .inl (cI, 78, .inl u.2.2.2.2.2.2.2.2.2.2.2.2.2.2.2.1)), (bs 7, .inl (cJ, 13, .inr (.inl u.2.2.2.2.2.2.2.2.2.2.2.2.2.2.2.2.1))), (bs 8, .inl (cJ, 13, .inr (.inl u.2.2.2.2.2.2.2.2.2.2.2.2.2.2.2.2.2.1))), (bs 9, .inl (cJ, 13, .inr (.inl u.2.2.2.2.2.2.2.2.2.2.2.2.2.2.2.2.2.2))), (b 8, oX5 bw), (bw 0, .inl (cJ, 240, .inr (.inl w_f0))), (bw 3, .inl (cI, 4, .inl w_f3))]) 0 0 := by
  refine CI.go (cc := cX9_facesFitting) (maxL := 6) (ret := (some .int)) (by decide) rfl (Nat.le_of_ble_eq_true rfl) ?_
  intro p e s m below meth c A ls Q hBd hret
  obtain ⟨hx, hb, hr, hml, hts, hown, hlk, hnm, hP, hK, hD, hA, hZ, hl⟩ := hBd
  have hown : s.vm.findClass RX9 = some m.cls := hown
  have hl : lv_has ls 6 [(0, .ref h0), (1, .int p0), (2, .int p1)] := hl
  have hS : va_S A s.heap s.heap [] := va_S.rf
  refine lv_iconst (v := 0) hx hb dX9_facesFitting_0 (by decide) ?_
  refine lv_istore_n (lv' := [(3, .int 0), (0, .ref h0), (1, .int p0), (2, .int p1)]) hx hb dX9_facesFitting_1 rfl hl (by decide) rfl (fun ls hl => ?_)
  refine lv_iconst (v := 0) hx hb dX9_facesFitting_2 (by decide) ?_
  refine lv_istore (lv' := [(4, .int 0), (3, .int 0), (0, .ref h0), (1, .int p0), (2, .int p1)]) hx hb dX9_facesFitting_3 hl (by decide) rfl (fun ls hl => ?_)
  have lp1 : ∀ (n2 : Nat) (x3 : Int32) (x4 : Int32) (z5 : Int32) (z6 : Int32) (y7 : Int64) (z8 : Int32) (z9 : Int32) (z10 : Int32) (y11 : Int64) (z12 : Int32) (g13 : Nat → Int32) (g14 : Nat → Int32) (g15 : Nat → Int32) (g16 : Nat → Int32) (g17 : Nat → Int64) (g18 : Nat → Int32) (g19 : Nat → Int32) (g20 : Nat → Int32) (g21 : Nat → Int64) (g22 : Nat → Int64) (g23 : Nat → Int64), 0 ≤ x4.toInt → x4.toInt ≤ 4 → 0 ≤ z12.toInt → z12.toInt ≤ 6 → ai g15 7 (-1) 40 → 4 - x4.toInt < (n2 : Int) → ∀ (H : Heap) (locs : List Loc), va_P G vwCl [(h0, oX9 b), (b 10, .inl (cI, 164, .inl g13)), (b 1, oX0 bt t_lines t_span t_rule t_odds t_wide t_high t_creeks t_houses t_widows t_acts), (bt 10, .inl (cI, 12, .inl t_f10)), (bt 11, .inl (cI, 6, .inl t_f11)), (bt 12, .inl (cI, 7, .inl t_f12)), (bt 13, .inl (cI, 7, .inl t_f13)), (bt 14, .inl (cI, 7, .inl t_f14)), (bt 15, .inl (cI, 7, .inl t_f15)), (bt 16, .inl (cI, 7, .inl t_f16)), (bt 17, .inl (cI, 56, .inl t_f17)), (bt 18, .inl (cI, 30, .inl t_f18)), (b 3, oX7 z0 z5 z6 y7 z8 z9 z10), (b 5, oX6 bs y11 z12), (bs 0, .inl (cI, 287, .inl g14)), (bs 1, .inl (cI, 7, .inl g15)), (bs 2, .inl (cI, 7, .inl g16)), (bs 3, .inl (cJ, 7, .inr (.inl g17))), (bs 4, .inl (cI, 7, .inl g18)), (bs 5, .inl (cI, 6, .inl g19)), (bs 6, .inl (cI, 78, .inl g20)), (bs 7, .inl (cJ, 13, .inr (.inl g21))), (bs 8, .inl (cJ, 13, .inr (.inl g22))), (bs 9, .inl (cJ, 13, .inr (.inl g23))), (b 8, oX5 bw), (bw 0, .inl (cJ, 240, .inr (.inl w_f0))), (bw 3, .inl (cI, 4, .inl w_f3))] H → va_D A [(h0, oX9 b), (b 10, .inl (cI, 164, .inl g13)), (b 1, oX0 bt t_lines t_span t_rule t_odds t_wide t_high t_creeks t_houses t_widows t_acts), (bt 10, .inl (cI, 12, .inl t_f10)), (bt 11, .inl (cI, 6, .inl t_f11)), (bt 12, .inl (cI, 7, .inl t_f12)), (bt 13, .inl (cI, 7, .inl t_f13)), (bt 14, .inl (cI, 7, .inl t_f14)), (bt 15, .inl (cI, 7, .inl t_f15)), (bt 16, .inl (cI, 7, .inl t_f16)), (bt 17, .inl (cI, 56, .inl t_f17)), (bt 18, .inl (cI, 30, .inl t_f18)), (b 3, oX7 z0 z5 z6 y7 z8 z9 z10), (b 5, oX6 bs y11 z12), (bs 0, .inl (cI, 287, .inl g14)), (bs 1, .inl (cI, 7, .inl g15)), (bs 2, .inl (cI, 7, .inl g16)), (bs 3, .inl (cJ, 7, .inr (.inl g17))), (bs 4, .inl (cI, 7, .inl g18)), (bs 5, .inl (cI, 6, .inl g19)), (bs 6, .inl (cI, 78, .inl g20)), (bs 7, .inl (cJ, 13, .inr (.inl g21))), (bs 8, .inl (cJ, 13, .inr (.inl g22))), (bs 9, .inl (cJ, 13, .inr (.inl g23))), (b 8, oX5 bw), (bw 0, .inl (cJ, 240, .inr (.inl w_f0))), (bw 3, .inl (cI, 4, .inl w_f3))] → va_S A s.heap H locs → ∀ (ls : Array Slot), lv_has ls 6 [(4, .int x4), (3, .int x3), (0, .ref h0), (1, .int p0), (2, .int p1)] → W p l e ({ frames := 4, cells := 0, slots := 0, locals := 105 } : Room) s m ([.ref h0, .int p0, .int p1] : List Value).toArray below meth c H locs 0 0 Q (F0 m 5 ls []) := by
    intro n2
    induction n2 with
    | zero =>
      intro x3 x4 z5 z6 y7 z8 z9 z10 y11 z12 g13 g14 g15 g16 g17 g18 g19 g20 g21 g22 g23 k24 k25 k26 k27 k28 mm30
      exact absurd mm30 (by have q9 := fb_rng x4; omega)
    | succ n2 ih29 =>
      intro x3 x4 z5 z6 y7 z8 z9 z10 y11 z12 g13 g14 g15 g16 g17 g18 g19 g20 g21 g22 g23 k24 k25 k26 k27 k28 mm30 H locs hP hD hS ls hl
      refine lv_iload hx hb dX9_facesFitting_5 (lv_at hl 0 rfl) ?_
      refine lv_iconst (v := 4) hx hb dX9_facesFitting_7 (by decide) ?_
      refine lv_icmp_ge (tgt := 124) hx hb dX9_facesFitting_8 (by decide) (fun c31 => ?_) (fun c31 => ?_)
      · have c31 := i_le ki_4 rfl c31
        refine lv_iload_n hx hb dX9_facesFitting_124 rfl (lv_at hl 1 rfl) ?_
        exact hret _ _ _ _ x3 (g13, z5, z6, y7, z8, z9, z10, y11, z12, g14, g15, g16, g17, g18, g19, g20, g21, g22, g23) hP hD hS dX9_facesFitting_125 (show 0 ≤ z12.toInt ∧ z12.toInt ≤ 6 ∧ ai g15 7 (-1) 40 from ⟨k26, k27, k28⟩)
      · have c31 := i_nle ki_4 rfl c31
        refine lv_aload_n hx hb dX9_facesFitting_11 rfl (lv_at hl 2 rfl) ?_
        refine va_get (D := G) (ci := 9) (v := .ref (b 3)) (C := RX9) (T := TX9) (N := 11) hx hb hts iG_X9 hown hK hP 0 rfl rfl 3 (by decide) (hts _ w_354) (fun _ h9 => h9) rfl dX9_facesFitting_12 ?_
        refine lv_aload_n hx hb dX9_facesFitting_15 rfl (lv_at hl 2 rfl) ?_
        refine va_get (D := G) (ci := 9) (v := .ref (b 1)) (C := RX9) (T := TX9) (N := 11) hx hb hts iG_X9 hown hK hP 0 rfl rfl 1 (by decide) (hts _ w_352) (fun _ h9 => h9) rfl dX9_facesFitting_16 ?_
        refine k_v (wc := [(b 3, oX7 z0 z5 z6 y7 z8 z9 z10), (b 1, oX0 bt t_lines t_span t_rule t_odds t_wide t_high t_creeks t_houses t_widows t_acts), (bt 10, .inl (cI, 12, .inl t_f10)), (bt 18, .inl (cI, 30, .inl t_f18))]) (wr := [(h0, oX9 b), (b 10, .inl (cI, 164, .inl g13)), (bt 11, .inl (cI, 6, .inl t_f11)), (bt 12, .inl (cI, 7, .inl t_f12)), (bt 13, .inl (cI, 7, .inl t_f13)), (bt 14, .inl (cI, 7, .inl t_f14)), (bt 15, .inl (cI, 7, .inl t_f15)), (bt 16, .inl (cI, 7, .inl t_f16)), (bt 17, .inl (cI, 56, .inl t_f17)), (b 5, oX6 bs y11 z12), (bs 0, .inl (cI, 287, .inl g14)), (bs 1, .inl (cI, 7, .inl g15)), (bs 2, .inl (cI, 7, .inl g16)), (bs 3, .inl (cJ, 7, .inr (.inl g17))), (bs 4, .inl (cI, 7, .inl g18)), (bs 5, .inl (cI, 6, .inl g19)), (bs 6, .inl (cI, 78, .inl g20)), (bs 7, .inl (cJ, 13, .inr (.inl g21))), (bs 8, .inl (cJ, 13, .inr (.inl g22))), (bs 9, .inl (cJ, 13, .inr (.inl g23))), (b 8, oX5 bw), (bw 0, .inl (cJ, 240, .inr (.inl w_f0))), (bw 3, .inl (cI, 4, .inl w_f3))]) hP hD hS hA [12, 2, 3, 11] [0, 1, 4, 5, 6, 7, 8, 9, 10, 13, 14, 15, 16, 17, 18, 19, 20, 21, 22, 23, 24, 25, 26] rfl rfl rfl (by decide) (va_runVN (As := [.ref (b 1)]) (rest := []) ⟨hx, hb, hml, hown, hts⟩ (f_X7_asNow l G cI cJ cZ cB cQ _ (b 3) (b 1) z5 z6 y7 z8 z9 z10 bt t_lines t_span t_rule t_odds t_wide t_high t_creeks t_houses t_widows t_acts t_f10 t_f18 hl_t_span hh_t_span hl_t_rule hh_t_rule hl_t_odds hh_t_odds hl_t_wide hh_t_wide hl_t_high hh_t_high hl_t_creeks hh_t_creeks hl_t_houses hh_t_houses hl_t_widows hh_t_widows hl_t_acts hh_t_acts) ⟨va_cnB (host := "WidowRoads") 1 hts (gW w_576) rfl rfl rfl (nz_nw hZ nw_573 rfl) (hts _ w_5) hd_X7_asNow ⟨Nat.le_of_ble_eq_true rfl, Nat.le_of_ble_eq_true rfl⟩, (hts _ w_575), (hts _ wp_22)⟩ (mV hK hZ hP hD [12, 2, 3, 11] rfl rfl [.ref (b 1)] 12 7 rfl rfl) rfl rfl hl.1 rfl (lv_room (Nat.le_of_ble_eq_true rfl)) dX9_facesFitting_19 ⟨Nat.le_of_ble_eq_true rfl, Nat.le_of_ble_eq_true rfl⟩) (fun u33 H locs hw34 hP hD hS => ?_)
        obtain ⟨o_ruleo35, o_walkerso36, o_creekso37, o_widowo38, o_faceso39, o_turno40⟩ := u33
        try dsimp only at hw34
        have hP : va_P G vwCl [(h0, oX9 b), (b 10, .inl (cI, 164, .inl g13)), (bt 11, .inl (cI, 6, .inl t_f11)), (bt 12, .inl (cI, 7, .inl t_f12)), (bt 13, .inl (cI, 7, .inl t_f13)), (bt 14, .inl (cI, 7, .inl t_f14)), (bt 15, .inl (cI, 7, .inl t_f15)), (bt 16, .inl (cI, 7, .inl t_f16)), (bt 17, .inl (cI, 56, .inl t_f17)), (b 5, oX6 bs y11 z12), (bs 0, .inl (cI, 287, .inl g14)), (bs 1, .inl (cI, 7, .inl g15)), (bs 2, .inl (cI, 7, .inl g16)), (bs 3, .inl (cJ, 7, .inr (.inl g17))), (bs 4, .inl (cI, 7, .inl g18)), (bs 5, .inl (cI, 6, .inl g19)), (bs 6, .inl (cI, 78, .inl g20)), (bs 7, .inl (cJ, 13, .inr (.inl g21))), (bs 8, .inl (cJ, 13, .inr (.inl g22))), (bs 9, .inl (cJ, 13, .inr (.inl g23))), (b 8, oX5 bw), (bw 0, .inl (cJ, 240, .inr (.inl w_f0))), (bw 3, .inl (cI, 4, .inl w_f3)), (b 3, oX7 z0 o_ruleo35 o_walkerso36 o_creekso37 o_widowo38 o_faceso39 o_turno40), (b 1, oX0 bt t_lines t_span t_rule t_odds t_wide t_high t_creeks t_houses t_widows t_acts), (bt 10, .inl (cI, 12, .inl t_f10)), (bt 18, .inl (cI, 30, .inl t_f18))] H := hP
        have hD : va_D A [(h0, oX9 b), (b 10, .inl (cI, 164, .inl g13)), (bt 11, .inl (cI, 6, .inl t_f11)), (bt 12, .inl (cI, 7, .inl t_f12)), (bt 13, .inl (cI, 7, .inl t_f13)), (bt 14, .inl (cI, 7, .inl t_f14)), (bt 15, .inl (cI, 7, .inl t_f15)), (bt 16, .inl (cI, 7, .inl t_f16)), (bt 17, .inl (cI, 56, .inl t_f17)), (b 5, oX6 bs y11 z12), (bs 0, .inl (cI, 287, .inl g14)), (bs 1, .inl (cI, 7, .inl g15)), (bs 2, .inl (cI, 7, .inl g16)), (bs 3, .inl (cJ, 7, .inr (.inl g17))), (bs 4, .inl (cI, 7, .inl g18)), (bs 5, .inl (cI, 6, .inl g19)), (bs 6, .inl (cI, 78, .inl g20)), (bs 7, .inl (cJ, 13, .inr (.inl g21))), (bs 8, .inl (cJ, 13, .inr (.inl g22))), (bs 9, .inl (cJ, 13, .inr (.inl g23))), (b 8, oX5 bw), (bw 0, .inl (cJ, 240, .inr (.inl w_f0))), (bw 3, .inl (cI, 4, .inl w_f3)), (b 3, oX7 z0 o_ruleo35 o_walkerso36 o_creekso37 o_widowo38 o_faceso39 o_turno40), (b 1, oX0 bt t_lines t_span t_rule t_odds t_wide t_high t_creeks t_houses t_widows t_acts), (bt 10, .inl (cI, 12, .inl t_f10)), (bt 18, .inl (cI, 30, .inl t_f18))] := hD
        refine lv_aload_n hx hb dX9_facesFitting_22 rfl (lv_at hl 2 rfl) ?_
        refine va_get (D := G) (ci := 9) (v := .ref (b 3)) (C := RX9) (T := TX9) (N := 11) hx hb hts iG_X9 hown hK hP 0 rfl rfl 3 (by decide) (hts _ w_354) (fun _ h9 => h9) rfl dX9_facesFitting_23 ?_
        refine lv_iload_n hx hb dX9_facesFitting_26 rfl (lv_at hl 4 rfl) ?_
        refine va_putN (D := G) (ci := 7) (v := .int p1) (ty := .int) (C := RX7) (T := TX7) (N := 6) hx hb hts iG_X7 tyX7 tyX7_ok nmX7 hown hK hP hD hS 23 rfl rfl 3 (by decide) (nz_use hZ nw_209 rfl) (fun _ h9 => h9) rfl (by decide +kernel) rfl rfl (Nat.le_of_ble_eq_true rfl) dX9_facesFitting_27 (fun H locs hP hD hS => ?_)
        have hP : va_P G vwCl [(h0, oX9 b), (b 10, .inl (cI, 164, .inl g13)), (bt 11, .inl (cI, 6, .inl t_f11)), (bt 12, .inl (cI, 7, .inl t_f12)), (bt 13, .inl (cI, 7, .inl t_f13)), (bt 14, .inl (cI, 7, .inl t_f14)), (bt 15, .inl (cI, 7, .inl t_f15)), (bt 16, .inl (cI, 7, .inl t_f16)), (bt 17, .inl (cI, 56, .inl t_f17)), (b 5, oX6 bs y11 z12), (bs 0, .inl (cI, 287, .inl g14)), (bs 1, .inl (cI, 7, .inl g15)), (bs 2, .inl (cI, 7, .inl g16)), (bs 3, .inl (cJ, 7, .inr (.inl g17))), (bs 4, .inl (cI, 7, .inl g18)), (bs 5, .inl (cI, 6, .inl g19)), (bs 6, .inl (cI, 78, .inl g20)), (bs 7, .inl (cJ, 13, .inr (.inl g21))), (bs 8, .inl (cJ, 13, .inr (.inl g22))), (bs 9, .inl (cJ, 13, .inr (.inl g23))), (b 8, oX5 bw), (bw 0, .inl (cJ, 240, .inr (.inl w_f0))), (bw 3, .inl (cI, 4, .inl w_f3)), (b 3, oX7 z0 o_ruleo35 o_walkerso36 o_creekso37 p1 o_faceso39 o_turno40), (b 1, oX0 bt t_lines t_span t_rule t_odds t_wide t_high t_creeks t_houses t_widows t_acts), (bt 10, .inl (cI, 12, .inl t_f10)), (bt 18, .inl (cI, 30, .inl t_f18))] H := hP
        have hD : va_D A [(h0, oX9 b), (b 10, .inl (cI, 164, .inl g13)), (bt 11, .inl (cI, 6, .inl t_f11)), (bt 12, .inl (cI, 7, .inl t_f12)), (bt 13, .inl (cI, 7, .inl t_f13)), (bt 14, .inl (cI, 7, .inl t_f14)), (bt 15, .inl (cI, 7, .inl t_f15)), (bt 16, .inl (cI, 7, .inl t_f16)), (bt 17, .inl (cI, 56, .inl t_f17)), (b 5, oX6 bs y11 z12), (bs 0, .inl (cI, 287, .inl g14)), (bs 1, .inl (cI, 7, .inl g15)), (bs 2, .inl (cI, 7, .inl g16)), (bs 3, .inl (cJ, 7, .inr (.inl g17))), (bs 4, .inl (cI, 7, .inl g18)), (bs 5, .inl (cI, 6, .inl g19)), (bs 6, .inl (cI, 78, .inl g20)), (bs 7, .inl (cJ, 13, .inr (.inl g21))), (bs 8, .inl (cJ, 13, .inr (.inl g22))), (bs 9, .inl (cJ, 13, .inr (.inl g23))), (b 8, oX5 bw), (bw 0, .inl (cJ, 240, .inr (.inl w_f0))), (bw 3, .inl (cI, 4, .inl w_f3)), (b 3, oX7 z0 o_ruleo35 o_walkerso36 o_creekso37 p1 o_faceso39 o_turno40), (b 1, oX0 bt t_lines t_span t_rule t_odds t_wide t_high t_creeks t_houses t_widows t_acts), (bt 10, .inl (cI, 12, .inl t_f10)), (bt 18, .inl (cI, 30, .inl t_f18))] := hD
        refine lv_aload_n hx hb dX9_facesFitting_30 rfl (lv_at hl 2 rfl) ?_
        refine va_get (D := G) (ci := 9) (v := .ref (b 3)) (C := RX9) (T := TX9) (N := 11) hx hb hts iG_X9 hown hK hP 0 rfl rfl 3 (by decide) (hts _ w_354) (fun _ h9 => h9) rfl dX9_facesFitting_31 ?_
        refine lv_iload hx hb dX9_facesFitting_34 (lv_at hl 0 rfl) ?_
        refine va_putN (D := G) (ci := 7) (v := .int x4) (ty := .int) (C := RX7) (T := TX7) (N := 6) hx hb hts iG_X7 tyX7 tyX7_ok nmX7 hown hK hP hD hS 23 rfl rfl 4 (by decide) (nz_use hZ nw_211 rfl) (fun _ h9 => h9) rfl (by decide +kernel) rfl rfl (Nat.le_of_ble_eq_true rfl) dX9_facesFitting_36 (fun H locs hP hD hS => ?_)
        have hP : va_P G vwCl [(h0, oX9 b), (b 10, .inl (cI, 164, .inl g13)), (bt 11, .inl (cI, 6, .inl t_f11)), (bt 12, .inl (cI, 7, .inl t_f12)), (bt 13, .inl (cI, 7, .inl t_f13)), (bt 14, .inl (cI, 7, .inl t_f14)), (bt 15, .inl (cI, 7, .inl t_f15)), (bt 16, .inl (cI, 7, .inl t_f16)), (bt 17, .inl (cI, 56, .inl t_f17)), (b 5, oX6 bs y11 z12), (bs 0, .inl (cI, 287, .inl g14)), (bs 1, .inl (cI, 7, .inl g15)), (bs 2, .inl (cI, 7, .inl g16)), (bs 3, .inl (cJ, 7, .inr (.inl g17))), (bs 4, .inl (cI, 7, .inl g18)), (bs 5, .inl (cI, 6, .inl g19)), (bs 6, .inl (cI, 78, .inl g20)), (bs 7, .inl (cJ, 13, .inr (.inl g21))), (bs 8, .inl (cJ, 13, .inr (.inl g22))), (bs 9, .inl (cJ, 13, .inr (.inl g23))), (b 8, oX5 bw), (bw 0, .inl (cJ, 240, .inr (.inl w_f0))), (bw 3, .inl (cI, 4, .inl w_f3)), (b 3, oX7 z0 o_ruleo35 o_walkerso36 o_creekso37 p1 x4 o_turno40), (b 1, oX0 bt t_lines t_span t_rule t_odds t_wide t_high t_creeks t_houses t_widows t_acts), (bt 10, .inl (cI, 12, .inl t_f10)), (bt 18, .inl (cI, 30, .inl t_f18))] H := hP
        have hD : va_D A [(h0, oX9 b), (b 10, .inl (cI, 164, .inl g13)), (bt 11, .inl (cI, 6, .inl t_f11)), (bt 12, .inl (cI, 7, .inl t_f12)), (bt 13, .inl (cI, 7, .inl t_f13)), (bt 14, .inl (cI, 7, .inl t_f14)), (bt 15, .inl (cI, 7, .inl t_f15)), (bt 16, .inl (cI, 7, .inl t_f16)), (bt 17, .inl (cI, 56, .inl t_f17)), (b 5, oX6 bs y11 z12), (bs 0, .inl (cI, 287, .inl g14)), (bs 1, .inl (cI, 7, .inl g15)), (bs 2, .inl (cI, 7, .inl g16)), (bs 3, .inl (cJ, 7, .inr (.inl g17))), (bs 4, .inl (cI, 7, .inl g18)), (bs 5, .inl (cI, 6, .inl g19)), (bs 6, .inl (cI, 78, .inl g20)), (bs 7, .inl (cJ, 13, .inr (.inl g21))), (bs 8, .inl (cJ, 13, .inr (.inl g22))), (bs 9, .inl (cJ, 13, .inr (.inl g23))), (b 8, oX5 bw), (bw 0, .inl (cJ, 240, .inr (.inl w_f0))), (bw 3, .inl (cI, 4, .inl w_f3)), (b 3, oX7 z0 o_ruleo35 o_walkerso36 o_creekso37 p1 x4 o_turno40), (b 1, oX0 bt t_lines t_span t_rule t_odds t_wide t_high t_creeks t_houses t_widows t_acts), (bt 10, .inl (cI, 12, .inl t_f10)), (bt 18, .inl (cI, 30, .inl t_f18))] := hD
        refine lv_aload_n hx hb dX9_facesFitting_39 rfl (lv_at hl 2 rfl) ?_
        refine va_get (D := G) (ci := 9) (v := .ref (b 5)) (C := RX9) (T := TX9) (N := 11) hx hb hts iG_X9 hown hK hP 0 rfl rfl 5 (by decide) (hts _ w_356) (fun _ h9 => h9) rfl dX9_facesFitting_40 ?_
        refine lv_aload_n hx hb dX9_facesFitting_43 rfl (lv_at hl 2 rfl) ?_
        refine va_get (D := G) (ci := 9) (v := .ref (b 1)) (C := RX9) (T := TX9) (N := 11) hx hb hts iG_X9 hown hK hP 0 rfl rfl 1 (by decide) (hts _ w_352) (fun _ h9 => h9) rfl dX9_facesFitting_44 ?_
        refine lv_aload_n hx hb dX9_facesFitting_47 rfl (lv_at hl 2 rfl) ?_
        refine va_get (D := G) (ci := 9) (v := .ref (b 3)) (C := RX9) (T := TX9) (N := 11) hx hb hts iG_X9 hown hK hP 0 rfl rfl 3 (by decide) (hts _ w_354) (fun _ h9 => h9) rfl dX9_facesFitting_48 ?_
        refine k_v (wc := [(b 5, oX6 bs y11 z12), (bs 0, .inl (cI, 287, .inl g14)), (bs 1, .inl (cI, 7, .inl g15)), (bs 2, .inl (cI, 7, .inl g16)), (bs 3, .inl (cJ, 7, .inr (.inl g17))), (bs 4, .inl (cI, 7, .inl g18)), (bs 5, .inl (cI, 6, .inl g19)), (bs 6, .inl (cI, 78, .inl g20)), (bs 7, .inl (cJ, 13, .inr (.inl g21))), (bs 8, .inl (cJ, 13, .inr (.inl g22))), (bs 9, .inl (cJ, 13, .inr (.inl g23))), (b 1, oX0 bt t_lines t_span t_rule t_odds t_wide t_high t_creeks t_houses t_widows t_acts), (bt 11, .inl (cI, 6, .inl t_f11)), (bt 12, .inl (cI, 7, .inl t_f12)), (bt 13, .inl (cI, 7, .inl t_f13)), (bt 14, .inl (cI, 7, .inl t_f14)), (bt 15, .inl (cI, 7, .inl t_f15)), (bt 16, .inl (cI, 7, .inl t_f16)), (bt 17, .inl (cI, 56, .inl t_f17)), (b 3, oX7 z0 o_ruleo35 o_walkerso36 o_creekso37 p1 x4 o_turno40)]) (wr := [(h0, oX9 b), (b 10, .inl (cI, 164, .inl g13)), (b 8, oX5 bw), (bw 0, .inl (cJ, 240, .inr (.inl w_f0))), (bw 3, .inl (cI, 4, .inl w_f3)), (bt 10, .inl (cI, 12, .inl t_f10)), (bt 18, .inl (cI, 30, .inl t_f18))]) hP hD hS hA [9, 10, 11, 12, 13, 14, 15, 16, 17, 18, 19, 24, 2, 3, 4, 5, 6, 7, 8, 23] [0, 1, 20, 21, 22, 25, 26] rfl rfl rfl (by decide) (va_runVN (As := [.ref (b 1), .ref (b 3)]) (rest := []) ⟨hx, hb, hml, hown, hts⟩ (f_X6_tell l G cI cJ cZ cB cQ _ (b 5) (b 1) (b 3) bs y11 z12 g14 g15 g16 g17 g18 g19 g20 g21 g22 g23 bt t_lines t_span t_rule t_odds t_wide t_high t_creeks t_houses t_widows t_acts t_f11 t_f12 t_f13 t_f14 t_f15 t_f16 t_f17 o_ruleo35 o_walkerso36 o_creekso37 p1 x4 o_turno40 k26 k27 k28 hl_t_span hh_t_span hl_t_rule hh_t_rule hl_t_odds hh_t_odds hl_t_wide hh_t_wide hl_t_high hh_t_high hl_t_creeks hh_t_creeks hl_t_houses hh_t_houses hl_t_widows hh_t_widows hl_t_acts hh_t_acts ha_t_f14 ha_t_f16) ⟨va_cnB (host := "WidowRoads") 2 hts (gW w_585) rfl rfl rfl (nz_nw hZ nw_582 rfl) (hts _ w_6) hd_X6_tell ⟨Nat.le_of_ble_eq_true rfl, Nat.le_of_ble_eq_true rfl⟩, (hts _ w_584), (hts _ wp_24)⟩ (mV hK hZ hP hD [9, 10, 11, 12, 13, 14, 15, 16, 17, 18, 19, 24, 2, 3, 4, 5, 6, 7, 8, 23] rfl rfl [.ref (b 1), .ref (b 3)] 9 6 rfl rfl) rfl rfl hl.1 rfl (lv_room (Nat.le_of_ble_eq_true rfl)) dX9_facesFitting_51 ⟨Nat.le_of_ble_eq_true rfl, Nat.le_of_ble_eq_true rfl⟩) (fun u42 H locs hw43 hP hD hS => ?_)
        obtain ⟨o_fieldo44, o_houseso45, o_f0o46, o_f1o47, o_f2o48, o_f3o49, o_f4o50, o_f5o51, o_f6o52, o_f7o53, o_f8o54, o_f9o55⟩ := u42
        try dsimp only at hw43
        have hP : va_P G vwCl [(h0, oX9 b), (b 10, .inl (cI, 164, .inl g13)), (b 8, oX5 bw), (bw 0, .inl (cJ, 240, .inr (.inl w_f0))), (bw 3, .inl (cI, 4, .inl w_f3)), (bt 10, .inl (cI, 12, .inl t_f10)), (bt 18, .inl (cI, 30, .inl t_f18)), (b 5, oX6 bs o_fieldo44 o_houseso45), (bs 0, .inl (cI, 287, .inl o_f0o46)), (bs 1, .inl (cI, 7, .inl o_f1o47)), (bs 2, .inl (cI, 7, .inl o_f2o48)), (bs 3, .inl (cJ, 7, .inr (.inl o_f3o49))), (bs 4, .inl (cI, 7, .inl o_f4o50)), (bs 5, .inl (cI, 6, .inl o_f5o51)), (bs 6, .inl (cI, 78, .inl o_f6o52)), (bs 7, .inl (cJ, 13, .inr (.inl o_f7o53))), (bs 8, .inl (cJ, 13, .inr (.inl o_f8o54))), (bs 9, .inl (cJ, 13, .inr (.inl o_f9o55))), (b 1, oX0 bt t_lines t_span t_rule t_odds t_wide t_high t_creeks t_houses t_widows t_acts), (bt 11, .inl (cI, 6, .inl t_f11)), (bt 12, .inl (cI, 7, .inl t_f12)), (bt 13, .inl (cI, 7, .inl t_f13)), (bt 14, .inl (cI, 7, .inl t_f14)), (bt 15, .inl (cI, 7, .inl t_f15)), (bt 16, .inl (cI, 7, .inl t_f16)), (bt 17, .inl (cI, 56, .inl t_f17)), (b 3, oX7 z0 o_ruleo35 o_walkerso36 o_creekso37 p1 x4 o_turno40)] H := hP
        have hD : va_D A [(h0, oX9 b), (b 10, .inl (cI, 164, .inl g13)), (b 8, oX5 bw), (bw 0, .inl (cJ, 240, .inr (.inl w_f0))), (bw 3, .inl (cI, 4, .inl w_f3)), (bt 10, .inl (cI, 12, .inl t_f10)), (bt 18, .inl (cI, 30, .inl t_f18)), (b 5, oX6 bs o_fieldo44 o_houseso45), (bs 0, .inl (cI, 287, .inl o_f0o46)), (bs 1, .inl (cI, 7, .inl o_f1o47)), (bs 2, .inl (cI, 7, .inl o_f2o48)), (bs 3, .inl (cJ, 7, .inr (.inl o_f3o49))), (bs 4, .inl (cI, 7, .inl o_f4o50)), (bs 5, .inl (cI, 6, .inl o_f5o51)), (bs 6, .inl (cI, 78, .inl o_f6o52)), (bs 7, .inl (cJ, 13, .inr (.inl o_f7o53))), (bs 8, .inl (cJ, 13, .inr (.inl o_f8o54))), (bs 9, .inl (cJ, 13, .inr (.inl o_f9o55))), (b 1, oX0 bt t_lines t_span t_rule t_odds t_wide t_high t_creeks t_houses t_widows t_acts), (bt 11, .inl (cI, 6, .inl t_f11)), (bt 12, .inl (cI, 7, .inl t_f12)), (bt 13, .inl (cI, 7, .inl t_f13)), (bt 14, .inl (cI, 7, .inl t_f14)), (bt 15, .inl (cI, 7, .inl t_f15)), (bt 16, .inl (cI, 7, .inl t_f16)), (bt 17, .inl (cI, 56, .inl t_f17)), (b 3, oX7 z0 o_ruleo35 o_walkerso36 o_creekso37 p1 x4 o_turno40)] := hD
        obtain ⟨w56, w57, w58⟩ : 0 ≤ o_houseso45.toInt ∧ o_houseso45.toInt ≤ 6 ∧ ai o_f1o47 7 (-1) 40 := hw43
        refine lv_iload_n hx hb dX9_facesFitting_54 rfl (lv_at hl 1 rfl) ?_
        refine lv_aload_n hx hb dX9_facesFitting_55 rfl (lv_at hl 2 rfl) ?_
        refine va_get (D := G) (ci := 9) (v := .ref (b 8)) (C := RX9) (T := TX9) (N := 11) hx hb hts iG_X9 hown hK hP 0 rfl rfl 8 (by decide) (hts _ w_359) (fun _ h9 => h9) rfl dX9_facesFitting_56 ?_
        refine lv_iload_n hx hb dX9_facesFitting_59 rfl (lv_at hl 3 rfl) ?_
        refine lv_aload_n hx hb dX9_facesFitting_60 rfl (lv_at hl 2 rfl) ?_
        refine va_get (D := G) (ci := 9) (v := .ref (b 1)) (C := RX9) (T := TX9) (N := 11) hx hb hts iG_X9 hown hK hP 0 rfl rfl 1 (by decide) (hts _ w_352) (fun _ h9 => h9) rfl dX9_facesFitting_61 ?_
        refine lv_aload_n hx hb dX9_facesFitting_64 rfl (lv_at hl 2 rfl) ?_
        refine va_get (D := G) (ci := 9) (v := .ref (b 5)) (C := RX9) (T := TX9) (N := 11) hx hb hts iG_X9 hown hK hP 0 rfl rfl 5 (by decide) (hts _ w_356) (fun _ h9 => h9) rfl dX9_facesFitting_65 ?_
        refine k_i (wc := [(b 8, oX5 bw), (bw 0, .inl (cJ, 240, .inr (.inl w_f0))), (bw 3, .inl (cI, 4, .inl w_f3)), (b 1, oX0 bt t_lines t_span t_rule t_odds t_wide t_high t_creeks t_houses t_widows t_acts), (b 5, oX6 bs o_fieldo44 o_houseso45), (bs 0, .inl (cI, 287, .inl o_f0o46)), (bs 1, .inl (cI, 7, .inl o_f1o47))]) (wr := [(h0, oX9 b), (b 10, .inl (cI, 164, .inl g13)), (bt 10, .inl (cI, 12, .inl t_f10)), (bt 18, .inl (cI, 30, .inl t_f18)), (bs 2, .inl (cI, 7, .inl o_f2o48)), (bs 3, .inl (cJ, 7, .inr (.inl o_f3o49))), (bs 4, .inl (cI, 7, .inl o_f4o50)), (bs 5, .inl (cI, 6, .inl o_f5o51)), (bs 6, .inl (cI, 78, .inl o_f6o52)), (bs 7, .inl (cJ, 13, .inr (.inl o_f7o53))), (bs 8, .inl (cJ, 13, .inr (.inl o_f8o54))), (bs 9, .inl (cJ, 13, .inr (.inl o_f9o55))), (bt 11, .inl (cI, 6, .inl t_f11)), (bt 12, .inl (cI, 7, .inl t_f12)), (bt 13, .inl (cI, 7, .inl t_f13)), (bt 14, .inl (cI, 7, .inl t_f14)), (bt 15, .inl (cI, 7, .inl t_f15)), (bt 16, .inl (cI, 7, .inl t_f16)), (bt 17, .inl (cI, 56, .inl t_f17)), (b 3, oX7 z0 o_ruleo35 o_walkerso36 o_creekso37 p1 x4 o_turno40)]) hP hD hS hA [2, 3, 4, 18, 7, 8, 9] [0, 1, 5, 6, 10, 11, 12, 13, 14, 15, 16, 17, 19, 20, 21, 22, 23, 24, 25, 26] rfl rfl rfl (by decide) (va_runVN (As := [.int p0, .ref (b 1), .ref (b 5)]) (rest := [.int x3]) ⟨hx, hb, hml, hown, hts⟩ (f_X5_fits l G cI cJ cZ cB cQ _ (b 8) p0 (b 1) (b 5) bw w_f0 w_f3 bt t_lines t_span t_rule t_odds t_wide t_high t_creeks t_houses t_widows t_acts bs o_fieldo44 o_houseso45 o_f0o46 o_f1o47 qp0_l qp0_h (by assumption) (by omega) ha_w_f3 hl_t_span hh_t_span hl_t_rule hh_t_rule hl_t_odds hh_t_odds hl_t_wide hh_t_wide hl_t_high hh_t_high hl_t_creeks hh_t_creeks hl_t_houses hh_t_houses hl_t_widows hh_t_widows hl_t_acts hh_t_acts w56 w57 w58) ⟨va_cnB (host := "WidowRoads") 3 hts (gW w_972) rfl rfl rfl (nz_nw hZ nw_969 rfl) (hts _ w_9) hd_X5_fits ⟨Nat.le_of_ble_eq_true rfl, Nat.le_of_ble_eq_true rfl⟩, (hts _ w_971), (hts _ wp_63)⟩ (mV hK hZ hP hD [2, 3, 4, 18, 7, 8, 9] rfl rfl [.int p0, .ref (b 1), .ref (b 5)] 2 5 rfl rfl) rfl rfl hl.1 rfl (lv_room (Nat.le_of_ble_eq_true rfl)) dX9_facesFitting_68 ⟨Nat.le_of_ble_eq_true rfl, Nat.le_of_ble_eq_true rfl⟩) (fun r59 u60 H locs hw61 hP hD hS => ?_)
        try dsimp only at hw61
        have hP : va_P G vwCl [(h0, oX9 b), (b 10, .inl (cI, 164, .inl g13)), (bt 10, .inl (cI, 12, .inl t_f10)), (bt 18, .inl (cI, 30, .inl t_f18)), (bs 2, .inl (cI, 7, .inl o_f2o48)), (bs 3, .inl (cJ, 7, .inr (.inl o_f3o49))), (bs 4, .inl (cI, 7, .inl o_f4o50)), (bs 5, .inl (cI, 6, .inl o_f5o51)), (bs 6, .inl (cI, 78, .inl o_f6o52)), (bs 7, .inl (cJ, 13, .inr (.inl o_f7o53))), (bs 8, .inl (cJ, 13, .inr (.inl o_f8o54))), (bs 9, .inl (cJ, 13, .inr (.inl o_f9o55))), (bt 11, .inl (cI, 6, .inl t_f11)), (bt 12, .inl (cI, 7, .inl t_f12)), (bt 13, .inl (cI, 7, .inl t_f13)), (bt 14, .inl (cI, 7, .inl t_f14)), (bt 15, .inl (cI, 7, .inl t_f15)), (bt 16, .inl (cI, 7, .inl t_f16)), (bt 17, .inl (cI, 56, .inl t_f17)), (b 3, oX7 z0 o_ruleo35 o_walkerso36 o_creekso37 p1 x4 o_turno40), (b 8, oX5 bw), (bw 0, .inl (cJ, 240, .inr (.inl w_f0))), (bw 3, .inl (cI, 4, .inl w_f3)), (b 1, oX0 bt t_lines t_span t_rule t_odds t_wide t_high t_creeks t_houses t_widows t_acts), (b 5, oX6 bs o_fieldo44 o_houseso45), (bs 0, .inl (cI, 287, .inl o_f0o46)), (bs 1, .inl (cI, 7, .inl o_f1o47))] H := hP
        have hD : va_D A [(h0, oX9 b), (b 10, .inl (cI, 164, .inl g13)), (bt 10, .inl (cI, 12, .inl t_f10)), (bt 18, .inl (cI, 30, .inl t_f18)), (bs 2, .inl (cI, 7, .inl o_f2o48)), (bs 3, .inl (cJ, 7, .inr (.inl o_f3o49))), (bs 4, .inl (cI, 7, .inl o_f4o50)), (bs 5, .inl (cI, 6, .inl o_f5o51)), (bs 6, .inl (cI, 78, .inl o_f6o52)), (bs 7, .inl (cJ, 13, .inr (.inl o_f7o53))), (bs 8, .inl (cJ, 13, .inr (.inl o_f8o54))), (bs 9, .inl (cJ, 13, .inr (.inl o_f9o55))), (bt 11, .inl (cI, 6, .inl t_f11)), (bt 12, .inl (cI, 7, .inl t_f12)), (bt 13, .inl (cI, 7, .inl t_f13)), (bt 14, .inl (cI, 7, .inl t_f14)), (bt 15, .inl (cI, 7, .inl t_f15)), (bt 16, .inl (cI, 7, .inl t_f16)), (bt 17, .inl (cI, 56, .inl t_f17)), (b 3, oX7 z0 o_ruleo35 o_walkerso36 o_creekso37 p1 x4 o_turno40), (b 8, oX5 bw), (bw 0, .inl (cJ, 240, .inr (.inl w_f0))), (bw 3, .inl (cI, 4, .inl w_f3)), (b 1, oX0 bt t_lines t_span t_rule t_odds t_wide t_high t_creeks t_houses t_widows t_acts), (b 5, oX6 bs o_fieldo44 o_houseso45), (bs 0, .inl (cI, 287, .inl o_f0o46)), (bs 1, .inl (cI, 7, .inl o_f1o47))] := hD
        obtain ⟨w62, w63⟩ : 0 ≤ r59.toInt ∧ r59.toInt ≤ 1 := hw61
        refine k_i (wc := []) (wr := [(h0, oX9 b), (b 10, .inl (cI, 164, .inl g13)), (bt 10, .inl (cI, 12, .inl t_f10)), (bt 18, .inl (cI, 30, .inl t_f18)), (bs 2, .inl (cI, 7, .inl o_f2o48)), (bs 3, .inl (cJ, 7, .inr (.inl o_f3o49))), (bs 4, .inl (cI, 7, .inl o_f4o50)), (bs 5, .inl (cI, 6, .inl o_f5o51)), (bs 6, .inl (cI, 78, .inl o_f6o52)), (bs 7, .inl (cJ, 13, .inr (.inl o_f7o53))), (bs 8, .inl (cJ, 13, .inr (.inl o_f8o54))), (bs 9, .inl (cJ, 13, .inr (.inl o_f9o55))), (bt 11, .inl (cI, 6, .inl t_f11)), (bt 12, .inl (cI, 7, .inl t_f12)), (bt 13, .inl (cI, 7, .inl t_f13)), (bt 14, .inl (cI, 7, .inl t_f14)), (bt 15, .inl (cI, 7, .inl t_f15)), (bt 16, .inl (cI, 7, .inl t_f16)), (bt 17, .inl (cI, 56, .inl t_f17)), (b 3, oX7 z0 o_ruleo35 o_walkerso36 o_creekso37 p1 x4 o_turno40), (b 8, oX5 bw), (bw 0, .inl (cJ, 240, .inr (.inl w_f0))), (bw 3, .inl (cI, 4, .inl w_f3)), (b 1, oX0 bt t_lines t_span t_rule t_odds t_wide t_high t_creeks t_houses t_widows t_acts), (b 5, oX6 bs o_fieldo44 o_houseso45), (bs 0, .inl (cI, 287, .inl o_f0o46)), (bs 1, .inl (cI, 7, .inl o_f1o47))]) hP hD hS hA [] [0, 1, 2, 3, 4, 5, 6, 7, 8, 9, 10, 11, 12, 13, 14, 15, 16, 17, 18, 19, 20, 21, 22, 23, 24, 25, 26] rfl rfl rfl (by decide) (va_runS (As := [.int r59]) (rest := [.int x3]) ⟨hx, hb, hml, hown, hts⟩ (f_X9_oneIf l G cI cJ cZ cB cQ _ r59) (va_cwS 1 hts (gS w_661 w_662 w_1 w_663) rfl rfl rfl hd_X9_oneIf ⟨Nat.le_of_ble_eq_true rfl, Nat.le_of_ble_eq_true rfl⟩) (mS hK hZ hP hD [] rfl rfl [.int r59]) rfl rfl hl.1 rfl (lv_room (Nat.le_of_ble_eq_true rfl)) dX9_facesFitting_71 ⟨Nat.le_of_ble_eq_true rfl, Nat.le_of_ble_eq_true rfl⟩) (fun r64 u65 H locs hw66 hP hD hS => ?_)
        try dsimp only at hw66
        have hP : va_P G vwCl [(h0, oX9 b), (b 10, .inl (cI, 164, .inl g13)), (bt 10, .inl (cI, 12, .inl t_f10)), (bt 18, .inl (cI, 30, .inl t_f18)), (bs 2, .inl (cI, 7, .inl o_f2o48)), (bs 3, .inl (cJ, 7, .inr (.inl o_f3o49))), (bs 4, .inl (cI, 7, .inl o_f4o50)), (bs 5, .inl (cI, 6, .inl o_f5o51)), (bs 6, .inl (cI, 78, .inl o_f6o52)), (bs 7, .inl (cJ, 13, .inr (.inl o_f7o53))), (bs 8, .inl (cJ, 13, .inr (.inl o_f8o54))), (bs 9, .inl (cJ, 13, .inr (.inl o_f9o55))), (bt 11, .inl (cI, 6, .inl t_f11)), (bt 12, .inl (cI, 7, .inl t_f12)), (bt 13, .inl (cI, 7, .inl t_f13)), (bt 14, .inl (cI, 7, .inl t_f14)), (bt 15, .inl (cI, 7, .inl t_f15)), (bt 16, .inl (cI, 7, .inl t_f16)), (bt 17, .inl (cI, 56, .inl t_f17)), (b 3, oX7 z0 o_ruleo35 o_walkerso36 o_creekso37 p1 x4 o_turno40), (b 8, oX5 bw), (bw 0, .inl (cJ, 240, .inr (.inl w_f0))), (bw 3, .inl (cI, 4, .inl w_f3)), (b 1, oX0 bt t_lines t_span t_rule t_odds t_wide t_high t_creeks t_houses t_widows t_acts), (b 5, oX6 bs o_fieldo44 o_houseso45), (bs 0, .inl (cI, 287, .inl o_f0o46)), (bs 1, .inl (cI, 7, .inl o_f1o47))] H := hP
        have hD : va_D A [(h0, oX9 b), (b 10, .inl (cI, 164, .inl g13)), (bt 10, .inl (cI, 12, .inl t_f10)), (bt 18, .inl (cI, 30, .inl t_f18)), (bs 2, .inl (cI, 7, .inl o_f2o48)), (bs 3, .inl (cJ, 7, .inr (.inl o_f3o49))), (bs 4, .inl (cI, 7, .inl o_f4o50)), (bs 5, .inl (cI, 6, .inl o_f5o51)), (bs 6, .inl (cI, 78, .inl o_f6o52)), (bs 7, .inl (cJ, 13, .inr (.inl o_f7o53))), (bs 8, .inl (cJ, 13, .inr (.inl o_f8o54))), (bs 9, .inl (cJ, 13, .inr (.inl o_f9o55))), (bt 11, .inl (cI, 6, .inl t_f11)), (bt 12, .inl (cI, 7, .inl t_f12)), (bt 13, .inl (cI, 7, .inl t_f13)), (bt 14, .inl (cI, 7, .inl t_f14)), (bt 15, .inl (cI, 7, .inl t_f15)), (bt 16, .inl (cI, 7, .inl t_f16)), (bt 17, .inl (cI, 56, .inl t_f17)), (b 3, oX7 z0 o_ruleo35 o_walkerso36 o_creekso37 p1 x4 o_turno40), (b 8, oX5 bw), (bw 0, .inl (cJ, 240, .inr (.inl w_f0))), (bw 3, .inl (cI, 4, .inl w_f3)), (b 1, oX0 bt t_lines t_span t_rule t_odds t_wide t_high t_creeks t_houses t_widows t_acts), (b 5, oX6 bs o_fieldo44 o_houseso45), (bs 0, .inl (cI, 287, .inl o_f0o46)), (bs 1, .inl (cI, 7, .inl o_f1o47))] := hD
        obtain ⟨w67, w68⟩ : 0 ≤ r64.toInt ∧ r64.toInt ≤ 1 := hw66
        refine lv_iload hx hb dX9_facesFitting_74 (lv_at hl 0 rfl) ?_
        refine lv_ishl hx hb dX9_facesFitting_76 ?_
        refine lv_topi (fun v69 ev69 => ?_)
        refine lv_ior hx hb dX9_facesFitting_77 ?_
        refine lv_topi (fun v70 ev70 => ?_)
        refine lv_istore_n (lv' := [(3, .int v70), (4, .int x4), (0, .ref h0), (1, .int p0), (2, .int p1)]) hx hb dX9_facesFitting_78 rfl hl (by decide) rfl (fun ls hl => ?_)
        refine lv_iconst (v := 0) hx hb dX9_facesFitting_79 (by decide) ?_
        refine lv_istore (lv' := [(5, .int 0), (3, .int v70), (4, .int x4), (0, .ref h0), (1, .int p0), (2, .int p1)]) hx hb dX9_facesFitting_80 hl (by decide) rfl (fun ls hl => ?_)
        have lp71 : ∀ (n72 : Nat) (x73 : Int32) (g74 : Nat → Int32), 0 ≤ x73.toInt → x73.toInt ≤ 41 → 41 - x73.toInt < (n72 : Int) → ∀ (H : Heap) (locs : List Loc), va_P G vwCl [(h0, oX9 b), (b 10, .inl (cI, 164, .inl g74)), (bt 10, .inl (cI, 12, .inl t_f10)), (bt 18, .inl (cI, 30, .inl t_f18)), (bs 2, .inl (cI, 7, .inl o_f2o48)), (bs 3, .inl (cJ, 7, .inr (.inl o_f3o49))), (bs 4, .inl (cI, 7, .inl o_f4o50)), (bs 5, .inl (cI, 6, .inl o_f5o51)), (bs 6, .inl (cI, 78, .inl o_f6o52)), (bs 7, .inl (cJ, 13, .inr (.inl o_f7o53))), (bs 8, .inl (cJ, 13, .inr (.inl o_f8o54))), (bs 9, .inl (cJ, 13, .inr (.inl o_f9o55))), (bt 11, .inl (cI, 6, .inl t_f11)), (bt 12, .inl (cI, 7, .inl t_f12)), (bt 13, .inl (cI, 7, .inl t_f13)), (bt 14, .inl (cI, 7, .inl t_f14)), (bt 15, .inl (cI, 7, .inl t_f15)), (bt 16, .inl (cI, 7, .inl t_f16)), (bt 17, .inl (cI, 56, .inl t_f17)), (b 3, oX7 z0 o_ruleo35 o_walkerso36 o_creekso37 p1 x4 o_turno40), (b 8, oX5 bw), (bw 0, .inl (cJ, 240, .inr (.inl w_f0))), (bw 3, .inl (cI, 4, .inl w_f3)), (b 1, oX0 bt t_lines t_span t_rule t_odds t_wide t_high t_creeks t_houses t_widows t_acts), (b 5, oX6 bs o_fieldo44 o_houseso45), (bs 0, .inl (cI, 287, .inl o_f0o46)), (bs 1, .inl (cI, 7, .inl o_f1o47))] H → va_D A [(h0, oX9 b), (b 10, .inl (cI, 164, .inl g74)), (bt 10, .inl (cI, 12, .inl t_f10)), (bt 18, .inl (cI, 30, .inl t_f18)), (bs 2, .inl (cI, 7, .inl o_f2o48)), (bs 3, .inl (cJ, 7, .inr (.inl o_f3o49))), (bs 4, .inl (cI, 7, .inl o_f4o50)), (bs 5, .inl (cI, 6, .inl o_f5o51)), (bs 6, .inl (cI, 78, .inl o_f6o52)), (bs 7, .inl (cJ, 13, .inr (.inl o_f7o53))), (bs 8, .inl (cJ, 13, .inr (.inl o_f8o54))), (bs 9, .inl (cJ, 13, .inr (.inl o_f9o55))), (bt 11, .inl (cI, 6, .inl t_f11)), (bt 12, .inl (cI, 7, .inl t_f12)), (bt 13, .inl (cI, 7, .inl t_f13)), (bt 14, .inl (cI, 7, .inl t_f14)), (bt 15, .inl (cI, 7, .inl t_f15)), (bt 16, .inl (cI, 7, .inl t_f16)), (bt 17, .inl (cI, 56, .inl t_f17)), (b 3, oX7 z0 o_ruleo35 o_walkerso36 o_creekso37 p1 x4 o_turno40), (b 8, oX5 bw), (bw 0, .inl (cJ, 240, .inr (.inl w_f0))), (bw 3, .inl (cI, 4, .inl w_f3)), (b 1, oX0 bt t_lines t_span t_rule t_odds t_wide t_high t_creeks t_houses t_widows t_acts), (b 5, oX6 bs o_fieldo44 o_houseso45), (bs 0, .inl (cI, 287, .inl o_f0o46)), (bs 1, .inl (cI, 7, .inl o_f1o47))] → va_S A s.heap H locs → ∀ (ls : Array Slot), lv_has ls 6 [(5, .int x73), (3, .int v70), (4, .int x4), (0, .ref h0), (1, .int p0), (2, .int p1)] → W p l e ({ frames := 4, cells := 0, slots := 0, locals := 105 } : Room) s m ([.ref h0, .int p0, .int p1] : List Value).toArray below meth c H locs 0 0 Q (F0 m 82 ls []) := by
          intro n72
          induction n72 with
          | zero =>
            intro x73 g74 k75 k76 mm78
            exact absurd mm78 (by have q9 := fb_rng x73; omega)
          | succ n72 ih77 =>
            intro x73 g74 k75 k76 mm78 H locs hP hD hS ls hl
            refine lv_iload hx hb dX9_facesFitting_82 (lv_at hl 0 rfl) ?_
            refine lv_bipush (v := 40) hx hb dX9_facesFitting_84 (by decide) ?_
            refine lv_icmp_gt (tgt := 118) hx hb dX9_facesFitting_86 (by decide) (fun c79 => ?_) (fun c79 => ?_)
            · have c79 := i_lt ki_40 rfl c79
              obtain ⟨v80, ev80⟩ : ∃ y : Int32, y = x4 + 1 := ⟨_, rfl⟩
              have tv80 : v80.toInt = x4.toInt + 1 := ti_add rfl ki_1 ev80 (by omega) (by omega)
              refine lv_iinc (v := v80) (lv' := [(4, .int v80), (5, .int x73), (3, .int v70), (0, .ref h0), (1, .int p0), (2, .int p1)]) hx hb dX9_facesFitting_118 hl (k := 2) rfl (by rw [ev80]; rfl) (by decide) rfl (fun ls hl => ?_)
              refine lv_goto (tgt := 5) hx hb dX9_facesFitting_121 (by decide) ?_
              exact ih29 v70 v80 o_ruleo35 o_walkerso36 o_creekso37 p1 x4 o_turno40 o_fieldo44 o_houseso45 g74 o_f0o46 o_f1o47 o_f2o48 o_f3o49 o_f4o50 o_f5o51 o_f6o52 o_f7o53 o_f8o54 o_f9o55 (by omega) (by omega) w56 w57 w58 (by omega) _ _ (hP.sub [0, 1, 23, 2, 12, 13, 14, 15, 16, 17, 18, 3, 19, 24, 25, 26, 4, 5, 6, 7, 8, 9, 10, 11, 20, 21, 22] rfl) (hD.sub [0, 1, 23, 2, 12, 13, 14, 15, 16, 17, 18, 3, 19, 24, 25, 26, 4, 5, 6, 7, 8, 9, 10, 11, 20, 21, 22] rfl rfl) hS ls (lv_sub hl [0, 2, 3, 4, 5] rfl)
            · have c79 := i_nlt ki_40 rfl c79
              refine lv_aload_n hx hb dX9_facesFitting_89 rfl (lv_at hl 3 rfl) ?_
              refine va_get (D := G) (ci := 9) (v := .ref (b 10)) (C := RX9) (T := TX9) (N := 11) hx hb hts iG_X9 hown hK hP 0 rfl rfl 10 (by decide) (hts _ w_361) (fun _ h9 => h9) rfl dX9_facesFitting_90 ?_
              refine lv_iload hx hb dX9_facesFitting_93 (lv_at hl 2 rfl) ?_
              refine lv_bipush (v := 41) hx hb dX9_facesFitting_95 (by decide) ?_
              refine lv_imul hx hb dX9_facesFitting_97 ?_
              refine lv_topi (fun v81 ev81 => ?_)
              have tv81 : v81.toInt = x4.toInt * 41 := ti_mul rfl ki_41 ev81 (by omega) (by omega)
              refine lv_iload hx hb dX9_facesFitting_98 (lv_at hl 0 rfl) ?_
              refine lv_iadd hx hb dX9_facesFitting_100 ?_
              refine lv_topi (fun v82 ev82 => ?_)
              have tv82 : v82.toInt = x4.toInt * 41 + x73.toInt := ti_add tv81 rfl ev82 (by omega) (by omega)
              refine lv_aload_n hx hb dX9_facesFitting_101 rfl (lv_at hl 3 rfl) ?_
              refine va_get (D := G) (ci := 9) (v := .ref (b 5)) (C := RX9) (T := TX9) (N := 11) hx hb hts iG_X9 hown hK hP 0 rfl rfl 5 (by decide) (hts _ w_356) (fun _ h9 => h9) rfl dX9_facesFitting_102 ?_
              refine lv_iload_n hx hb dX9_facesFitting_105 rfl (lv_at hl 5 rfl) ?_
              refine lv_iload hx hb dX9_facesFitting_106 (lv_at hl 0 rfl) ?_
              refine k_i (wc := [(b 5, oX6 bs o_fieldo44 o_houseso45), (bs 0, .inl (cI, 287, .inl o_f0o46)), (bs 1, .inl (cI, 7, .inl o_f1o47))]) (wr := [(h0, oX9 b), (b 10, .inl (cI, 164, .inl g74)), (bt 10, .inl (cI, 12, .inl t_f10)), (bt 18, .inl (cI, 30, .inl t_f18)), (bs 2, .inl (cI, 7, .inl o_f2o48)), (bs 3, .inl (cJ, 7, .inr (.inl o_f3o49))), (bs 4, .inl (cI, 7, .inl o_f4o50)), (bs 5, .inl (cI, 6, .inl o_f5o51)), (bs 6, .inl (cI, 78, .inl o_f6o52)), (bs 7, .inl (cJ, 13, .inr (.inl o_f7o53))), (bs 8, .inl (cJ, 13, .inr (.inl o_f8o54))), (bs 9, .inl (cJ, 13, .inr (.inl o_f9o55))), (bt 11, .inl (cI, 6, .inl t_f11)), (bt 12, .inl (cI, 7, .inl t_f12)), (bt 13, .inl (cI, 7, .inl t_f13)), (bt 14, .inl (cI, 7, .inl t_f14)), (bt 15, .inl (cI, 7, .inl t_f15)), (bt 16, .inl (cI, 7, .inl t_f16)), (bt 17, .inl (cI, 56, .inl t_f17)), (b 3, oX7 z0 o_ruleo35 o_walkerso36 o_creekso37 p1 x4 o_turno40), (b 8, oX5 bw), (bw 0, .inl (cJ, 240, .inr (.inl w_f0))), (bw 3, .inl (cI, 4, .inl w_f3)), (b 1, oX0 bt t_lines t_span t_rule t_odds t_wide t_high t_creeks t_houses t_widows t_acts)]) hP hD hS hA [24, 25, 26] [0, 1, 2, 3, 4, 5, 6, 7, 8, 9, 10, 11, 12, 13, 14, 15, 16, 17, 18, 19, 20, 21, 22, 23] rfl rfl rfl (by decide) (va_runVN (As := [.int p1, .int x73]) (rest := [.int v82, .ref (b 10)]) ⟨hx, hb, hml, hown, hts⟩ (f_X6_spotAt l G cI cJ cZ cB cQ _ (b 5) p1 x73 bs o_fieldo44 o_houseso45 o_f0o46 o_f1o47 qp1_l qp1_h k75 w56 w57 w58) ⟨va_cnB (host := "WidowRoads") 2 hts (gW w_690) rfl rfl rfl (nz_nw hZ nw_687 rfl) (hts _ w_6) hd_X6_spotAt ⟨Nat.le_of_ble_eq_true rfl, Nat.le_of_ble_eq_true rfl⟩, (hts _ w_689), (hts _ wp_36)⟩ (mV hK hZ hP hD [24, 25, 26] rfl rfl [.int p1, .int x73] 24 6 rfl rfl) rfl rfl hl.1 rfl (lv_room (Nat.le_of_ble_eq_true rfl)) dX9_facesFitting_108 ⟨Nat.le_of_ble_eq_true rfl, Nat.le_of_ble_eq_true rfl⟩) (fun r83 u84 H locs hw85 hP hD hS => ?_)
              try dsimp only at hw85
              have hP : va_P G vwCl [(h0, oX9 b), (b 10, .inl (cI, 164, .inl g74)), (bt 10, .inl (cI, 12, .inl t_f10)), (bt 18, .inl (cI, 30, .inl t_f18)), (bs 2, .inl (cI, 7, .inl o_f2o48)), (bs 3, .inl (cJ, 7, .inr (.inl o_f3o49))), (bs 4, .inl (cI, 7, .inl o_f4o50)), (bs 5, .inl (cI, 6, .inl o_f5o51)), (bs 6, .inl (cI, 78, .inl o_f6o52)), (bs 7, .inl (cJ, 13, .inr (.inl o_f7o53))), (bs 8, .inl (cJ, 13, .inr (.inl o_f8o54))), (bs 9, .inl (cJ, 13, .inr (.inl o_f9o55))), (bt 11, .inl (cI, 6, .inl t_f11)), (bt 12, .inl (cI, 7, .inl t_f12)), (bt 13, .inl (cI, 7, .inl t_f13)), (bt 14, .inl (cI, 7, .inl t_f14)), (bt 15, .inl (cI, 7, .inl t_f15)), (bt 16, .inl (cI, 7, .inl t_f16)), (bt 17, .inl (cI, 56, .inl t_f17)), (b 3, oX7 z0 o_ruleo35 o_walkerso36 o_creekso37 p1 x4 o_turno40), (b 8, oX5 bw), (bw 0, .inl (cJ, 240, .inr (.inl w_f0))), (bw 3, .inl (cI, 4, .inl w_f3)), (b 1, oX0 bt t_lines t_span t_rule t_odds t_wide t_high t_creeks t_houses t_widows t_acts), (b 5, oX6 bs o_fieldo44 o_houseso45), (bs 0, .inl (cI, 287, .inl o_f0o46)), (bs 1, .inl (cI, 7, .inl o_f1o47))] H := hP
              have hD : va_D A [(h0, oX9 b), (b 10, .inl (cI, 164, .inl g74)), (bt 10, .inl (cI, 12, .inl t_f10)), (bt 18, .inl (cI, 30, .inl t_f18)), (bs 2, .inl (cI, 7, .inl o_f2o48)), (bs 3, .inl (cJ, 7, .inr (.inl o_f3o49))), (bs 4, .inl (cI, 7, .inl o_f4o50)), (bs 5, .inl (cI, 6, .inl o_f5o51)), (bs 6, .inl (cI, 78, .inl o_f6o52)), (bs 7, .inl (cJ, 13, .inr (.inl o_f7o53))), (bs 8, .inl (cJ, 13, .inr (.inl o_f8o54))), (bs 9, .inl (cJ, 13, .inr (.inl o_f9o55))), (bt 11, .inl (cI, 6, .inl t_f11)), (bt 12, .inl (cI, 7, .inl t_f12)), (bt 13, .inl (cI, 7, .inl t_f13)), (bt 14, .inl (cI, 7, .inl t_f14)), (bt 15, .inl (cI, 7, .inl t_f15)), (bt 16, .inl (cI, 7, .inl t_f16)), (bt 17, .inl (cI, 56, .inl t_f17)), (b 3, oX7 z0 o_ruleo35 o_walkerso36 o_creekso37 p1 x4 o_turno40), (b 8, oX5 bw), (bw 0, .inl (cJ, 240, .inr (.inl w_f0))), (bw 3, .inl (cI, 4, .inl w_f3)), (b 1, oX0 bt t_lines t_span t_rule t_odds t_wide t_high t_creeks t_houses t_widows t_acts), (b 5, oX6 bs o_fieldo44 o_houseso45), (bs 0, .inl (cI, 287, .inl o_f0o46)), (bs 1, .inl (cI, 7, .inl o_f1o47))] := hD
              refine va_iast hx hb hK hP hD hS 1 0 rfl rfl (ix_in tv82 (by omega) (by omega)) dX9_facesFitting_111 (fun H locs hP hD hS => ?_)
              obtain ⟨f86, qf86⟩ : ∃ g, g = upd g74 v82.toNatClampNeg r83 := ⟨_, rfl⟩
              rw [← qf86] at hP hD
              have hP : va_P G vwCl [(h0, oX9 b), (b 10, .inl (cI, 164, .inl f86)), (bt 10, .inl (cI, 12, .inl t_f10)), (bt 18, .inl (cI, 30, .inl t_f18)), (bs 2, .inl (cI, 7, .inl o_f2o48)), (bs 3, .inl (cJ, 7, .inr (.inl o_f3o49))), (bs 4, .inl (cI, 7, .inl o_f4o50)), (bs 5, .inl (cI, 6, .inl o_f5o51)), (bs 6, .inl (cI, 78, .inl o_f6o52)), (bs 7, .inl (cJ, 13, .inr (.inl o_f7o53))), (bs 8, .inl (cJ, 13, .inr (.inl o_f8o54))), (bs 9, .inl (cJ, 13, .inr (.inl o_f9o55))), (bt 11, .inl (cI, 6, .inl t_f11)), (bt 12, .inl (cI, 7, .inl t_f12)), (bt 13, .inl (cI, 7, .inl t_f13)), (bt 14, .inl (cI, 7, .inl t_f14)), (bt 15, .inl (cI, 7, .inl t_f15)), (bt 16, .inl (cI, 7, .inl t_f16)), (bt 17, .inl (cI, 56, .inl t_f17)), (b 3, oX7 z0 o_ruleo35 o_walkerso36 o_creekso37 p1 x4 o_turno40), (b 8, oX5 bw), (bw 0, .inl (cJ, 240, .inr (.inl w_f0))), (bw 3, .inl (cI, 4, .inl w_f3)), (b 1, oX0 bt t_lines t_span t_rule t_odds t_wide t_high t_creeks t_houses t_widows t_acts), (b 5, oX6 bs o_fieldo44 o_houseso45), (bs 0, .inl (cI, 287, .inl o_f0o46)), (bs 1, .inl (cI, 7, .inl o_f1o47))] H := hP
              have hD : va_D A [(h0, oX9 b), (b 10, .inl (cI, 164, .inl f86)), (bt 10, .inl (cI, 12, .inl t_f10)), (bt 18, .inl (cI, 30, .inl t_f18)), (bs 2, .inl (cI, 7, .inl o_f2o48)), (bs 3, .inl (cJ, 7, .inr (.inl o_f3o49))), (bs 4, .inl (cI, 7, .inl o_f4o50)), (bs 5, .inl (cI, 6, .inl o_f5o51)), (bs 6, .inl (cI, 78, .inl o_f6o52)), (bs 7, .inl (cJ, 13, .inr (.inl o_f7o53))), (bs 8, .inl (cJ, 13, .inr (.inl o_f8o54))), (bs 9, .inl (cJ, 13, .inr (.inl o_f9o55))), (bt 11, .inl (cI, 6, .inl t_f11)), (bt 12, .inl (cI, 7, .inl t_f12)), (bt 13, .inl (cI, 7, .inl t_f13)), (bt 14, .inl (cI, 7, .inl t_f14)), (bt 15, .inl (cI, 7, .inl t_f15)), (bt 16, .inl (cI, 7, .inl t_f16)), (bt 17, .inl (cI, 56, .inl t_f17)), (b 3, oX7 z0 o_ruleo35 o_walkerso36 o_creekso37 p1 x4 o_turno40), (b 8, oX5 bw), (bw 0, .inl (cJ, 240, .inr (.inl w_f0))), (bw 3, .inl (cI, 4, .inl w_f3)), (b 1, oX0 bt t_lines t_span t_rule t_odds t_wide t_high t_creeks t_houses t_widows t_acts), (b 5, oX6 bs o_fieldo44 o_houseso45), (bs 0, .inl (cI, 287, .inl o_f0o46)), (bs 1, .inl (cI, 7, .inl o_f1o47))] := hD
              obtain ⟨v87, ev87⟩ : ∃ y : Int32, y = x73 + 1 := ⟨_, rfl⟩
              have tv87 : v87.toInt = x73.toInt + 1 := ti_add rfl ki_1 ev87 (by omega) (by omega)
              refine lv_iinc (v := v87) (lv' := [(5, .int v87), (3, .int v70), (4, .int x4), (0, .ref h0), (1, .int p0), (2, .int p1)]) hx hb dX9_facesFitting_112 hl (k := 0) rfl (by rw [ev87]; rfl) (by decide) rfl (fun ls hl => ?_)
              refine lv_goto (tgt := 82) hx hb dX9_facesFitting_115 (by decide) ?_
              exact ih77 v87 f86 (by omega) (by omega) (by omega) _ _ hP hD hS ls (lv_sub hl [0, 1, 2, 3, 4, 5] rfl)
        exact lp71 42 0 g13 (by rw [ki_0]; decide) (by rw [ki_0]; decide) (by rw [ki_0]; decide) _ _ hP hD hS ls (lv_sub hl [0, 1, 2, 3, 4, 5] rfl)
  exact lp1 5 0 0 u_rule u_walkers u_creeks u_widow u_faces u_turn s_field s_houses o_f10 s_f0 s_f1 s_f2 s_f3 s_f4 s_f5 s_f6 s_f7 s_f8 s_f9 (by rw [ki_0]; decide) (by rw [ki_0]; decide) hl_s_houses hh_s_houses ha_s_f1 (by rw [ki_0]; decide) _ _ hP hD hS ls (lv_sub hl [0, 1, 2, 3, 4] rfl)
