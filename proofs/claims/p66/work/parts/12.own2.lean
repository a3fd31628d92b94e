theorem wp_0 : Cond.selects "WidowRoads$Tape" yX8_put yX8_put ∈ GW := GW_p 0 (by decide +kernel) rfl
theorem wp_37 : Cond.selects "WidowRoads$Story" yX6_walks yX6_walks ∈ GW := GW_p 37 (by decide +kernel) rfl
theorem wp_38 : Cond.selects "WidowRoads$Story" yX6_timesAt yX6_timesAt ∈ GW := GW_p 38 (by decide +kernel) rfl
theorem wp_39 : Cond.selects "WidowRoads$Colony" yX0_hasYear yX0_hasYear ∈ GW := GW_p 39 (by decide +kernel) rfl
theorem wp_40 : Cond.selects "WidowRoads" yX9_straightWay yX9_straightWay ∈ GW := GW_p 40 (by decide +kernel) rfl
theorem wp_45 : Cond.selects "WidowRoads$Net" yX3_lay yX3_lay ∈ GW := GW_p 45 (by decide +kernel) rfl
theorem wp_47 : Cond.selects "WidowRoads$Net" yX3_cellsJoinedBy yX3_cellsJoinedBy ∈ GW := GW_p 47 (by decide +kernel) rfl
theorem wp_48 : Cond.selects "WidowRoads$Net" yX3_parts yX3_parts ∈ GW := GW_p 48 (by decide +kernel) rfl
theorem wp_50 : Cond.selects "WidowRoads$Net" yX3_cuts yX3_cuts ∈ GW := GW_p 50 (by decide +kernel) rfl
theorem wp_51 : Cond.selects "WidowRoads$Net" yX3_outermost yX3_outermost ∈ GW := GW_p 51 (by decide +kernel) rfl
theorem wp_52 : Cond.selects "WidowRoads" yX9_widowsIn yX9_widowsIn ∈ GW := GW_p 52 (by decide +kernel) rfl
theorem wp_53 : Cond.selects "WidowRoads$Net" yX3_longestRow yX3_longestRow ∈ GW := GW_p 53 (by decide +kernel) rfl
theorem wp_54 : Cond.selects "WidowRoads$Colony" yX0_hasHouse yX0_hasHouse ∈ GW := GW_p 54 (by decide +kernel) rfl
theorem wp_55 : Cond.selects "WidowRoads" yX9_fewestCovering yX9_fewestCovering ∈ GW := GW_p 55 (by decide +kernel) rfl
theorem wp_57 : Cond.selects "WidowRoads$Story" yX6_allShifts yX6_allShifts ∈ GW := GW_p 57 (by decide +kernel) rfl
theorem w_351 : Jvm.Cond.fieldLink "WidowRoads" (12 : Nat) "WidowRoads" "reader" "LWidowRoads$Reader;" ∈ GW := GW_t 351 (by decide +kernel) rfl
theorem w_391 : Jvm.Cond.instanceMethod ({ cls := "WidowRoads$Tape", name := "put", desc := "(I)V" } : Jvm.MethodName) ∈ GW := GW_t 391 (by decide +kernel) rfl
theorem w_392 : Jvm.Cond.code ({ cls := "WidowRoads$Tape", name := "put", desc := "(I)V" } : Jvm.MethodName) prog_10_method_2_code (3 : Nat) (Option.none : Option Jvm.ClassFile.FieldType) ∈ GW := GW_t 392 (by decide +kernel) rfl
theorem w_672 : Jvm.Cond.methodLink "WidowRoads" (135 : Nat) ({ cls := "WidowRoads", name := "cellOf", desc := "(I)I" } : Jvm.MethodName) ∈ GW := GW_t 672 (by decide +kernel) rfl
theorem w_673 : Jvm.Cond.static ({ cls := "WidowRoads", name := "cellOf", desc := "(I)I" } : Jvm.MethodName) ∈ GW := GW_t 673 (by decide +kernel) rfl
theorem w_674 : Jvm.Cond.code ({ cls := "WidowRoads", name := "cellOf", desc := "(I)I" } : Jvm.MethodName) prog_1_method_90_code (1 : Nat) (Option.some Jvm.ClassFile.FieldType.int) ∈ GW := GW_t 674 (by decide +kernel) rfl
theorem w_683 : Jvm.Cond.methodLink "WidowRoads" (154 : Nat) ({ cls := "WidowRoads", name := "isStep", desc := "(J)Z" } : Jvm.MethodName) ∈ GW := GW_t 683 (by decide +kernel) rfl
theorem w_701 : Jvm.Cond.instanceMethod ({ cls := "WidowRoads$Story", name := "walks", desc := "(I)Z" } : Jvm.MethodName) ∈ GW := GW_t 701 (by decide +kernel) rfl
theorem w_702 : Jvm.Cond.code ({ cls := "WidowRoads$Story", name := "walks", desc := "(I)Z" } : Jvm.MethodName) prog_8_method_11_code (2 : Nat) (Option.some Jvm.ClassFile.FieldType.boolean) ∈ GW := GW_t 702 (by decide +kernel) rfl
theorem w_717 : Jvm.Cond.instanceMethod ({ cls := "WidowRoads$Story", name := "timesAt", desc := "(II)I" } : Jvm.MethodName) ∈ GW := GW_t 717 (by decide +kernel) rfl
theorem w_718 : Jvm.Cond.code ({ cls := "WidowRoads$Story", name := "timesAt", desc := "(II)I" } : Jvm.MethodName) prog_8_method_13_code (5 : Nat) (Option.some Jvm.ClassFile.FieldType.int) ∈ GW := GW_t 718 (by decide +kernel) rfl
theorem w_726 : Jvm.Cond.instanceMethod ({ cls := "WidowRoads$Colony", name := "hasYear", desc := "(I)Z" } : Jvm.MethodName) ∈ GW := GW_t 726 (by decide +kernel) rfl
theorem w_727 : Jvm.Cond.code ({ cls := "WidowRoads$Colony", name := "hasYear", desc := "(I)Z" } : Jvm.MethodName) prog_2_method_6_code (2 : Nat) (Option.some Jvm.ClassFile.FieldType.boolean) ∈ GW := GW_t 727 (by decide +kernel) rfl
theorem w_736 : Jvm.Cond.methodLink "WidowRoads" (192 : Nat) ({ cls := "WidowRoads", name := "straightWay", desc := "(II)I" } : Jvm.MethodName) ∈ GW := GW_t 736 (by decide +kernel) rfl
theorem w_738 : Jvm.Cond.instanceMethod ({ cls := "WidowRoads", name := "straightWay", desc := "(II)I" } : Jvm.MethodName) ∈ GW := GW_t 738 (by decide +kernel) rfl
theorem w_739 : Jvm.Cond.code ({ cls := "WidowRoads", name := "straightWay", desc := "(II)I" } : Jvm.MethodName) prog_1_method_72_code (3 : Nat) (Option.some Jvm.ClassFile.FieldType.int) ∈ GW := GW_t 739 (by decide +kernel) rfl
theorem w_780 : Jvm.Cond.instanceMethod ({ cls := "WidowRoads$Net", name := "lay", desc := "(LWidowRoads$Story;I)V" } : Jvm.MethodName) ∈ GW := GW_t 780 (by decide +kernel) rfl
theorem w_781 : Jvm.Cond.code ({ cls := "WidowRoads$Net", name := "lay", desc := "(LWidowRoads$Story;I)V" } : Jvm.MethodName) prog_5_method_2_code (3 : Nat) (Option.none : Option Jvm.ClassFile.FieldType) ∈ GW := GW_t 781 (by decide +kernel) rfl
theorem w_794 : Jvm.Cond.instanceMethod ({ cls := "WidowRoads$Net", name := "cellsJoinedBy", desc := "(I)I" } : Jvm.MethodName) ∈ GW := GW_t 794 (by decide +kernel) rfl
theorem w_795 : Jvm.Cond.code ({ cls := "WidowRoads$Net", name := "cellsJoinedBy", desc := "(I)I" } : Jvm.MethodName) prog_5_method_10_code (4 : Nat) (Option.some Jvm.ClassFile.FieldType.int) ∈ GW := GW_t 795 (by decide +kernel) rfl
theorem w_809 : Jvm.Cond.instanceMethod ({ cls := "WidowRoads$Net", name := "parts", desc := "()I" } : Jvm.MethodName) ∈ GW := GW_t 809 (by decide +kernel) rfl
theorem w_810 : Jvm.Cond.code ({ cls := "WidowRoads$Net", name := "parts", desc := "()I" } : Jvm.MethodName) prog_5_method_6_code (5 : Nat) (Option.some Jvm.ClassFile.FieldType.int) ∈ GW := GW_t 810 (by decide +kernel) rfl
theorem w_834 : Jvm.Cond.instanceMethod ({ cls := "WidowRoads$Net", name := "cuts", desc := "()I" } : Jvm.MethodName) ∈ GW := GW_t 834 (by decide +kernel) rfl
theorem w_835 : Jvm.Cond.code ({ cls := "WidowRoads$Net", name := "cuts", desc := "()I" } : Jvm.MethodName) prog_5_method_11_code (5 : Nat) (Option.some Jvm.ClassFile.FieldType.int) ∈ GW := GW_t 835 (by decide +kernel) rfl
theorem w_855 : Jvm.Cond.instanceMethod ({ cls := "WidowRoads$Net", name := "outermost", desc := "(I)I" } : Jvm.MethodName) ∈ GW := GW_t 855 (by decide +kernel) rfl
theorem w_856 : Jvm.Cond.code ({ cls := "WidowRoads$Net", name := "outermost", desc := "(I)I" } : Jvm.MethodName) prog_5_method_8_code (9 : Nat) (Option.some Jvm.ClassFile.FieldType.int) ∈ GW := GW_t 856 (by decide +kernel) rfl
theorem w_861 : Jvm.Cond.methodLink "WidowRoads" (237 : Nat) ({ cls := "WidowRoads", name := "widowsIn", desc := "(I)I" } : Jvm.MethodName) ∈ GW := GW_t 861 (by decide +kernel) rfl
theorem w_863 : Jvm.Cond.instanceMethod ({ cls := "WidowRoads", name := "widowsIn", desc := "(I)I" } : Jvm.MethodName) ∈ GW := GW_t 863 (by decide +kernel) rfl
theorem w_864 : Jvm.Cond.code ({ cls := "WidowRoads", name := "widowsIn", desc := "(I)I" } : Jvm.MethodName) prog_1_method_73_code (4 : Nat) (Option.some Jvm.ClassFile.FieldType.int) ∈ GW := GW_t 864 (by decide +kernel) rfl
theorem w_884 : Jvm.Cond.instanceMethod ({ cls := "WidowRoads$Net", name := "longestRow", desc := "()I" } : Jvm.MethodName) ∈ GW := GW_t 884 (by decide +kernel) rfl
theorem w_885 : Jvm.Cond.code ({ cls := "WidowRoads$Net", name := "longestRow", desc := "()I" } : Jvm.MethodName) prog_5_method_12_code (7 : Nat) (Option.some Jvm.ClassFile.FieldType.int) ∈ GW := GW_t 885 (by decide +kernel) rfl
theorem w_892 : Jvm.Cond.instanceMethod ({ cls := "WidowRoads$Colony", name := "hasHouse", desc := "(I)Z" } : Jvm.MethodName) ∈ GW := GW_t 892 (by decide +kernel) rfl
theorem w_893 : Jvm.Cond.code ({ cls := "WidowRoads$Colony", name := "hasHouse", desc := "(I)Z" } : Jvm.MethodName) prog_2_method_5_code (2 : Nat) (Option.some Jvm.ClassFile.FieldType.boolean) ∈ GW := GW_t 893 (by decide +kernel) rfl
theorem w_906 : Jvm.Cond.methodLink "WidowRoads" (262 : Nat) ({ cls := "WidowRoads", name := "around", desc := "(I)J" } : Jvm.MethodName) ∈ GW := GW_t 906 (by decide +kernel) rfl
theorem w_907 : Jvm.Cond.static ({ cls := "WidowRoads", name := "around", desc := "(I)J" } : Jvm.MethodName) ∈ GW := GW_t 907 (by decide +kernel) rfl
theorem w_908 : Jvm.Cond.code ({ cls := "WidowRoads", name := "around", desc := "(I)J" } : Jvm.MethodName) prog_1_method_95_code (5 : Nat) (Option.some Jvm.ClassFile.FieldType.long) ∈ GW := GW_t 908 (by decide +kernel) rfl
theorem w_915 : Jvm.Cond.methodLink "WidowRoads" (265 : Nat) ({ cls := "WidowRoads", name := "fewestCovering", desc := "()I" } : Jvm.MethodName) ∈ GW := GW_t 915 (by decide +kernel) rfl
theorem w_917 : Jvm.Cond.instanceMethod ({ cls := "WidowRoads", name := "fewestCovering", desc := "()I" } : Jvm.MethodName) ∈ GW := GW_t 917 (by decide +kernel) rfl
theorem w_918 : Jvm.Cond.code ({ cls := "WidowRoads", name := "fewestCovering", desc := "()I" } : Jvm.MethodName) prog_1_method_74_code (5 : Nat) (Option.some Jvm.ClassFile.FieldType.int) ∈ GW := GW_t 918 (by decide +kernel) rfl
theorem w_933 : Jvm.Cond.instanceMethod ({ cls := "WidowRoads$Story", name := "allShifts", desc := "()I" } : Jvm.MethodName) ∈ GW := GW_t 933 (by decide +kernel) rfl
theorem w_934 : Jvm.Cond.code ({ cls := "WidowRoads$Story", name := "allShifts", desc := "()I" } : Jvm.MethodName) prog_8_method_15_code (3 : Nat) (Option.some Jvm.ClassFile.FieldType.int) ∈ GW := GW_t 934 (by decide +kernel) rfl
theorem nw_41 : Jvm.Cond.fieldLinkNest "WidowRoads" (80 : Nat) "WidowRoads$Tape" "length" "I" "WidowRoads" ∈ tables_1 := List.mem_of_getElem? (i := 41) (by decide +kernel)
theorem nw_79 : Jvm.Cond.fieldLinkNest "WidowRoads" (281 : Nat) "WidowRoads$Colony" "creeks" "I" "WidowRoads" ∈ tables_1 := List.mem_of_getElem? (i := 79) (by decide +kernel)
theorem nw_83 : Jvm.Cond.fieldLinkNest "WidowRoads" (259 : Nat) "WidowRoads$Colony" "houses" "I" "WidowRoads" ∈ tables_1 := List.mem_of_getElem? (i := 83) (by decide +kernel)
theorem nw_93 : Jvm.Cond.fieldLinkNest "WidowRoads" (287 : Nat) "WidowRoads$Colony" "creekSpots" "[I" "WidowRoads" ∈ tables_1 := List.mem_of_getElem? (i := 93) (by decide +kernel)
theorem nw_99 : Jvm.Cond.fieldLinkNest "WidowRoads" (132 : Nat) "WidowRoads$Colony" "starts" "[I" "WidowRoads" ∈ tables_1 := List.mem_of_getElem? (i := 99) (by decide +kernel)
theorem nw_103 : Jvm.Cond.fieldLinkNest "WidowRoads" (139 : Nat) "WidowRoads$Colony" "faces" "[I" "WidowRoads" ∈ tables_1 := List.mem_of_getElem? (i := 103) (by decide +kernel)
theorem nw_107 : Jvm.Cond.fieldLinkNest "WidowRoads" (142 : Nat) "WidowRoads$Colony" "paces" "[I" "WidowRoads" ∈ tables_1 := List.mem_of_getElem? (i := 107) (by decide +kernel)
theorem nw_111 : Jvm.Cond.fieldLinkNest "WidowRoads" (145 : Nat) "WidowRoads$Colony" "years" "[I" "WidowRoads" ∈ tables_1 := List.mem_of_getElem? (i := 111) (by decide +kernel)
theorem nw_115 : Jvm.Cond.fieldLinkNest "WidowRoads" (148 : Nat) "WidowRoads$Colony" "turns" "[I" "WidowRoads" ∈ tables_1 := List.mem_of_getElem? (i := 115) (by decide +kernel)
theorem nw_119 : Jvm.Cond.fieldLinkNest "WidowRoads" (151 : Nat) "WidowRoads$Colony" "griefs" "[I" "WidowRoads" ∈ tables_1 := List.mem_of_getElem? (i := 119) (by decide +kernel)
theorem nw_164 : Jvm.Cond.fieldLinkNest "WidowRoads" (93 : Nat) "WidowRoads$Reader" "fault" "I" "WidowRoads" ∈ tables_1 := List.mem_of_getElem? (i := 164) (by decide +kernel)
theorem nw_166 : Jvm.Cond.fieldLinkNest "WidowRoads" (109 : Nat) "WidowRoads$Reader" "place" "I" "WidowRoads" ∈ tables_1 := List.mem_of_getElem? (i := 166) (by decide +kernel)
theorem nw_168 : Jvm.Cond.fieldLinkNest "WidowRoads" (76 : Nat) "WidowRoads$Reader" "tape" "LWidowRoads$Tape;" "WidowRoads" ∈ tables_1 := List.mem_of_getElem? (i := 168) (by decide +kernel)
theorem nw_207 : Jvm.Cond.fieldLinkNest "WidowRoads" (284 : Nat) "WidowRoads$Supposal" "creeks" "J" "WidowRoads" ∈ tables_1 := List.mem_of_getElem? (i := 207) (by decide +kernel)
theorem nw_235 : Jvm.Cond.fieldLinkNest "WidowRoads" (161 : Nat) "WidowRoads$Story" "lasts" "[I" "WidowRoads" ∈ tables_1 := List.mem_of_getElem? (i := 235) (by decide +kernel)
theorem nw_237 : Jvm.Cond.fieldLinkNest "WidowRoads" (168 : Nat) "WidowRoads$Story" "stood" "[I" "WidowRoads" ∈ tables_1 := List.mem_of_getElem? (i := 237) (by decide +kernel)
theorem nw_241 : Jvm.Cond.fieldLinkNest "WidowRoads" (256 : Nat) "WidowRoads$Story" "shifted" "[I" "WidowRoads" ∈ tables_1 := List.mem_of_getElem? (i := 241) (by decide +kernel)
theorem nw_243 : Jvm.Cond.fieldLinkNest "WidowRoads" (253 : Nat) "WidowRoads$Story" "shifts" "[I" "WidowRoads" ∈ tables_1 := List.mem_of_getElem? (i := 243) (by decide +kernel)
theorem nw_245 : Jvm.Cond.fieldLinkNest "WidowRoads" (250 : Nat) "WidowRoads$Story" "homes" "[I" "WidowRoads" ∈ tables_1 := List.mem_of_getElem? (i := 245) (by decide +kernel)
theorem nw_389 : Jvm.Cond.methodLinkNest "WidowRoads" (86 : Nat) ({ cls := "WidowRoads$Tape", name := "put", desc := "(I)V" } : Jvm.MethodName) "WidowRoads" ∈ tables_1 := List.mem_of_getElem? (i := 389) (by decide +kernel)
theorem nw_653 : Jvm.Cond.methodLinkNest "WidowRoads" (112 : Nat) ({ cls := "WidowRoads$Colony", name := "spotOf", desc := "(J)I" } : Jvm.MethodName) "WidowRoads" ∈ tables_1 := List.mem_of_getElem? (i := 653) (by decide +kernel)
theorem nw_699 : Jvm.Cond.methodLinkNest "WidowRoads" (164 : Nat) ({ cls := "WidowRoads$Story", name := "walks", desc := "(I)Z" } : Jvm.MethodName) "WidowRoads" ∈ tables_1 := List.mem_of_getElem? (i := 699) (by decide +kernel)
theorem nw_715 : Jvm.Cond.methodLinkNest "WidowRoads" (180 : Nat) ({ cls := "WidowRoads$Story", name := "timesAt", desc := "(II)I" } : Jvm.MethodName) "WidowRoads" ∈ tables_1 := List.mem_of_getElem? (i := 715) (by decide +kernel)
theorem nw_724 : Jvm.Cond.methodLinkNest "WidowRoads" (183 : Nat) ({ cls := "WidowRoads$Colony", name := "hasYear", desc := "(I)Z" } : Jvm.MethodName) "WidowRoads" ∈ tables_1 := List.mem_of_getElem? (i := 724) (by decide +kernel)
theorem nw_778 : Jvm.Cond.methodLinkNest "WidowRoads" (201 : Nat) ({ cls := "WidowRoads$Net", name := "lay", desc := "(LWidowRoads$Story;I)V" } : Jvm.MethodName) "WidowRoads" ∈ tables_1 := List.mem_of_getElem? (i := 778) (by decide +kernel)
theorem nw_782 : Jvm.Cond.methodLinkNest "WidowRoads" (205 : Nat) ({ cls := "WidowRoads$Net", name := "sidesJoined", desc := "(I)I" } : Jvm.MethodName) "WidowRoads" ∈ tables_1 := List.mem_of_getElem? (i := 782) (by decide +kernel)
theorem nw_792 : Jvm.Cond.methodLinkNest "WidowRoads" (208 : Nat) ({ cls := "WidowRoads$Net", name := "cellsJoinedBy", desc := "(I)I" } : Jvm.MethodName) "WidowRoads" ∈ tables_1 := List.mem_of_getElem? (i := 792) (by decide +kernel)
theorem nw_807 : Jvm.Cond.methodLinkNest "WidowRoads" (211 : Nat) ({ cls := "WidowRoads$Net", name := "parts", desc := "()I" } : Jvm.MethodName) "WidowRoads" ∈ tables_1 := List.mem_of_getElem? (i := 807) (by decide +kernel)
theorem nw_832 : Jvm.Cond.methodLinkNest "WidowRoads" (224 : Nat) ({ cls := "WidowRoads$Net", name := "cuts", desc := "()I" } : Jvm.MethodName) "WidowRoads" ∈ tables_1 := List.mem_of_getElem? (i := 832) (by decide +kernel)
theorem nw_840 : Jvm.Cond.methodLinkNest "WidowRoads" (227 : Nat) ({ cls := "WidowRoads$Net", name := "reach", desc := "(I)J" } : Jvm.MethodName) "WidowRoads" ∈ tables_1 := List.mem_of_getElem? (i := 840) (by decide +kernel)
theorem nw_853 : Jvm.Cond.methodLinkNest "WidowRoads" (234 : Nat) ({ cls := "WidowRoads$Net", name := "outermost", desc := "(I)I" } : Jvm.MethodName) "WidowRoads" ∈ tables_1 := List.mem_of_getElem? (i := 853) (by decide +kernel)
theorem nw_882 : Jvm.Cond.methodLinkNest "WidowRoads" (244 : Nat) ({ cls := "WidowRoads$Net", name := "longestRow", desc := "()I" } : Jvm.MethodName) "WidowRoads" ∈ tables_1 := List.mem_of_getElem? (i := 882) (by decide +kernel)
theorem nw_890 : Jvm.Cond.methodLinkNest "WidowRoads" (247 : Nat) ({ cls := "WidowRoads$Colony", name := "hasHouse", desc := "(I)Z" } : Jvm.MethodName) "WidowRoads" ∈ tables_1 := List.mem_of_getElem? (i := 890) (by decide +kernel)
theorem nw_931 : Jvm.Cond.methodLinkNest "WidowRoads" (268 : Nat) ({ cls := "WidowRoads$Story", name := "allShifts", desc := "()I" } : Jvm.MethodName) "WidowRoads" ∈ tables_1 := List.mem_of_getElem? (i := 931) (by decide +kernel)
theorem hd_X0_hasHouse : yX0_hasHouse.cls ≠ "java/lang/invoke/MethodHandle" ∧ yX0_hasHouse.cls ≠ "java/lang/invoke/VarHandle" ∧ (parseMethodDescriptor yX0_hasHouse.desc).map (fun d => d.parameters.length) = some 1 := by decide +kernel
theorem hd_X0_hasYear : yX0_hasYear.cls ≠ "java/lang/invoke/MethodHandle" ∧ yX0_hasYear.cls ≠ "java/lang/invoke/VarHandle" ∧ (parseMethodDescriptor yX0_hasYear.desc).map (fun d => d.parameters.length) = some 1 := by decide +kernel
theorem hd_X3_cellsJoinedBy : yX3_cellsJoinedBy.cls ≠ "java/lang/invoke/MethodHandle" ∧ yX3_cellsJoinedBy.cls ≠ "java/lang/invoke/VarHandle" ∧ (parseMethodDescriptor yX3_cellsJoinedBy.desc).map (fun d => d.parameters.length) = some 1 := by decide +kernel
theorem hd_X3_cuts : yX3_cuts.cls ≠ "java/lang/invoke/MethodHandle" ∧ yX3_cuts.cls ≠ "java/lang/invoke/VarHandle" ∧ (parseMethodDescriptor yX3_cuts.desc).map (fun d => d.parameters.length) = some 0 := by decide +kernel
theorem hd_X3_lay : yX3_lay.cls ≠ "java/lang/invoke/MethodHandle" ∧ yX3_lay.cls ≠ "java/lang/invoke/VarHandle" ∧ (parseMethodDescriptor yX3_lay.desc).map (fun d => d.parameters.length) = some 2 := by decide +kernel
theorem hd_X3_longestRow : yX3_longestRow.cls ≠ "java/lang/invoke/MethodHandle" ∧ yX3_longestRow.cls ≠ "java/lang/invoke/VarHandle" ∧ (parseMethodDescriptor yX3_longestRow.desc).map (fun d => d.parameters.length) = some 0 := by decide +kernel
theorem hd_X3_outermost : yX3_outermost.cls ≠ "java/lang/invoke/MethodHandle" ∧ yX3_outermost.cls ≠ "java/lang/invoke/VarHandle" ∧ (parseMethodDescriptor yX3_outermost.desc).map (fun d => d.parameters.length) = some 1 := by decide +kernel
theorem hd_X3_parts : yX3_parts.cls ≠ "java/lang/invoke/MethodHandle" ∧ yX3_parts.cls ≠ "java/lang/invoke/VarHandle" ∧ (parseMethodDescriptor yX3_parts.desc).map (fun d => d.parameters.length) = some 0 := by decide +kernel
theorem hd_X6_allShifts : yX6_allShifts.cls ≠ "java/lang/invoke/MethodHandle" ∧ yX6_allShifts.cls ≠ "java/lang/invoke/VarHandle" ∧ (parseMethodDescriptor yX6_allShifts.desc).map (fun d => d.parameters.length) = some 0 := by decide +kernel
theorem hd_X6_timesAt : yX6_timesAt.cls ≠ "java/lang/invoke/MethodHandle" ∧ yX6_timesAt.cls ≠ "java/lang/invoke/VarHandle" ∧ (parseMethodDescriptor yX6_timesAt.desc).map (fun d => d.parameters.length) = some 2 := by decide +kernel
theorem hd_X6_walks : yX6_walks.cls ≠ "java/lang/invoke/MethodHandle" ∧ yX6_walks.cls ≠ "java/lang/invoke/VarHandle" ∧ (parseMethodDescriptor yX6_walks.desc).map (fun d => d.parameters.length) = some 1 := by decide +kernel
theorem hd_X8_put : yX8_put.cls ≠ "java/lang/invoke/MethodHandle" ∧ yX8_put.cls ≠ "java/lang/invoke/VarHandle" ∧ (parseMethodDescriptor yX8_put.desc).map (fun d => d.parameters.length) = some 1 := by decide +kernel
theorem hd_X9_around : yX9_around.cls ≠ "java/lang/invoke/MethodHandle" ∧ yX9_around.cls ≠ "java/lang/invoke/VarHandle" ∧ (parseMethodDescriptor yX9_around.desc).map (fun d => d.parameters.length) = some 1 := by decide +kernel
theorem hd_X9_cellOf : yX9_cellOf.cls ≠ "java/lang/invoke/MethodHandle" ∧ yX9_cellOf.cls ≠ "java/lang/invoke/VarHandle" ∧ (parseMethodDescriptor yX9_cellOf.desc).map (fun d => d.parameters.length) = some 1 := by decide +kernel
theorem hd_X9_fewestCovering : yX9_fewestCovering.cls ≠ "java/lang/invoke/MethodHandle" ∧ yX9_fewestCovering.cls ≠ "java/lang/invoke/VarHandle" ∧ (parseMethodDescriptor yX9_fewestCovering.desc).map (fun d => d.parameters.length) = some 0 := by decide +kernel
theorem hd_X9_straightWay : yX9_straightWay.cls ≠ "java/lang/invoke/MethodHandle" ∧ yX9_straightWay.cls ≠ "java/lang/invoke/VarHandle" ∧ (parseMethodDescriptor yX9_straightWay.desc).map (fun d => d.parameters.length) = some 2 := by decide +kernel
theorem hd_X9_widowsIn : yX9_widowsIn.cls ≠ "java/lang/invoke/MethodHandle" ∧ yX9_widowsIn.cls ≠ "java/lang/invoke/VarHandle" ∧ (parseMethodDescriptor yX9_widowsIn.desc).map (fun d => d.parameters.length) = some 1 := by decide +kernel
theorem ki_880 : (880 : Int32).toInt = 880 := by decide
theorem dX9_at_0 : decode cX9_at 0 = .ok (.aload_n 0, 1) := by decide +kernel
theorem dX9_at_1 : decode cX9_at 1 = .ok (.getfield 19, 3) := by decide +kernel
theorem dX9_at_4 : decode cX9_at 4 = .ok (.iload_n 1, 1) := by decide +kernel
theorem dX9_at_5 : decode cX9_at 5 = .ok (.i2l, 1) := by decide +kernel
theorem dX9_at_6 : decode cX9_at 6 = .ok (.invokevirtual 128, 3) := by decide +kernel
theorem dX9_at_9 : decode cX9_at 9 = .ok (.ifCond .eq 11, 3) := by decide +kernel
theorem dX9_at_12 : decode cX9_at 12 = .ok (.iload_n 2, 1) := by decide +kernel
theorem dX9_at_13 : decode cX9_at 13 = .ok (.i2l, 1) := by decide +kernel
theorem dX9_at_14 : decode cX9_at 14 = .ok (.invokestatic 154, 3) := by decide +kernel
theorem dX9_at_17 : decode cX9_at 17 = .ok (.ifCond .ne 6, 3) := by decide +kernel
theorem dX9_at_20 : decode cX9_at 20 = .ok (.bipush (-2), 2) := by decide +kernel
theorem dX9_at_22 : decode cX9_at 22 = .ok (.ireturn, 1) := by decide +kernel
theorem dX9_at_23 : decode cX9_at 23 = .ok (.aload_n 0, 1) := by decide +kernel
theorem dX9_at_24 : decode cX9_at 24 = .ok (.getfield 37, 3) := by decide +kernel
theorem dX9_at_27 : decode cX9_at 27 = .ok (.iload_n 1, 1) := by decide +kernel
theorem dX9_at_28 : decode cX9_at 28 = .ok (.iload_n 2, 1) := by decide +kernel
theorem dX9_at_29 : decode cX9_at 29 = .ok (.invokevirtual 157, 3) := by decide +kernel
theorem dX9_at_32 : decode cX9_at 32 = .ok (.invokestatic 135, 3) := by decide +kernel
theorem dX9_at_35 : decode cX9_at 35 = .ok (.ireturn, 1) := by decide +kernel
theorem dX9_beeline_0 : decode cX9_beeline 0 = .ok (.aload_n 0, 1) := by decide +kernel
theorem dX9_beeline_1 : decode cX9_beeline 1 = .ok (.getfield 19, 3) := by decide +kernel
theorem dX9_beeline_4 : decode cX9_beeline 4 = .ok (.iload_n 1, 1) := by decide +kernel
theorem dX9_beeline_5 : decode cX9_beeline 5 = .ok (.i2l, 1) := by decide +kernel
theorem dX9_beeline_6 : decode cX9_beeline 6 = .ok (.invokevirtual 112, 3) := by decide +kernel
theorem dX9_beeline_9 : decode cX9_beeline 9 = .ok (.istore_n 3, 1) := by decide +kernel
theorem dX9_beeline_10 : decode cX9_beeline 10 = .ok (.aload_n 0, 1) := by decide +kernel
theorem dX9_beeline_11 : decode cX9_beeline 11 = .ok (.getfield 19, 3) := by decide +kernel
theorem dX9_beeline_14 : decode cX9_beeline 14 = .ok (.iload_n 2, 1) := by decide +kernel
theorem dX9_beeline_15 : decode cX9_beeline 15 = .ok (.i2l, 1) := by decide +kernel
theorem dX9_beeline_16 : decode cX9_beeline 16 = .ok (.invokevirtual 112, 3) := by decide +kernel
theorem dX9_beeline_19 : decode cX9_beeline 19 = .ok (.istore 4, 2) := by decide +kernel
theorem dX9_beeline_21 : decode cX9_beeline 21 = .ok (.iload_n 3, 1) := by decide +kernel
theorem dX9_beeline_22 : decode cX9_beeline 22 = .ok (.iconst (-1), 1) := by decide +kernel
theorem dX9_beeline_23 : decode cX9_beeline 23 = .ok (.if_icmp .eq 9, 3) := by decide +kernel
theorem dX9_beeline_26 : decode cX9_beeline 26 = .ok (.iload 4, 2) := by decide +kernel
theorem dX9_beeline_28 : decode cX9_beeline 28 = .ok (.iconst (-1), 1) := by decide +kernel
theorem dX9_beeline_29 : decode cX9_beeline 29 = .ok (.if_icmp .ne 6, 3) := by decide +kernel
theorem dX9_beeline_32 : decode cX9_beeline 32 = .ok (.bipush (-2), 2) := by decide +kernel
theorem dX9_beeline_34 : decode cX9_beeline 34 = .ok (.ireturn, 1) := by decide +kernel
theorem dX9_beeline_35 : decode cX9_beeline 35 = .ok (.aload_n 0, 1) := by decide +kernel
theorem dX9_beeline_36 : decode cX9_beeline 36 = .ok (.iload_n 3, 1) := by decide +kernel
theorem dX9_beeline_37 : decode cX9_beeline 37 = .ok (.iload 4, 2) := by decide +kernel
theorem dX9_beeline_39 : decode cX9_beeline 39 = .ok (.invokevirtual 192, 3) := by decide +kernel
theorem dX9_beeline_42 : decode cX9_beeline 42 = .ok (.ireturn, 1) := by decide +kernel
theorem dX9_blame_0 : decode cX9_blame 0 = .ok (.aload_n 0, 1) := by decide +kernel
theorem dX9_blame_1 : decode cX9_blame 1 = .ok (.getfield 19, 3) := by decide +kernel
theorem dX9_blame_4 : decode cX9_blame 4 = .ok (.getfield 106, 3) := by decide +kernel
theorem dX9_blame_7 : decode cX9_blame 7 = .ok (.ifCond .ne 6, 3) := by decide +kernel
theorem dX9_blame_10 : decode cX9_blame 10 = .ok (.bipush (-2), 2) := by decide +kernel
theorem dX9_blame_12 : decode cX9_blame 12 = .ok (.ireturn, 1) := by decide +kernel
theorem dX9_blame_13 : decode cX9_blame 13 = .ok (.aload_n 0, 1) := by decide +kernel
theorem dX9_blame_14 : decode cX9_blame 14 = .ok (.getfield 37, 3) := by decide +kernel
theorem dX9_blame_17 : decode cX9_blame 17 = .ok (.invokevirtual 268, 3) := by decide +kernel
theorem dX9_blame_20 : decode cX9_blame 20 = .ok (.istore_n 1, 1) := by decide +kernel
theorem dX9_blame_21 : decode cX9_blame 21 = .ok (.iconst (-1), 1) := by decide +kernel
theorem dX9_blame_22 : decode cX9_blame 22 = .ok (.istore_n 2, 1) := by decide +kernel
theorem dX9_blame_23 : decode cX9_blame 23 = .ok (.iconst 0, 1) := by decide +kernel
theorem dX9_blame_24 : decode cX9_blame 24 = .ok (.istore_n 3, 1) := by decide +kernel
theorem dX9_blame_25 : decode cX9_blame 25 = .ok (.iload_n 3, 1) := by decide +kernel
theorem dX9_blame_26 : decode cX9_blame 26 = .ok (.aload_n 0, 1) := by decide +kernel
theorem dX9_blame_27 : decode cX9_blame 27 = .ok (.getfield 19, 3) := by decide +kernel
theorem dX9_blame_30 : decode cX9_blame 30 = .ok (.getfield 189, 3) := by decide +kernel
theorem dX9_blame_33 : decode cX9_blame 33 = .ok (.if_icmp .ge 73, 3) := by decide +kernel
theorem dX9_blame_36 : decode cX9_blame 36 = .ok (.aload_n 0, 1) := by decide +kernel
theorem dX9_blame_37 : decode cX9_blame 37 = .ok (.getfield 30, 3) := by decide +kernel
theorem dX9_blame_40 : decode cX9_blame 40 = .ok (.aload_n 0, 1) := by decide +kernel
theorem dX9_blame_41 : decode cX9_blame 41 = .ok (.getfield 19, 3) := by decide +kernel
theorem dX9_blame_44 : decode cX9_blame 44 = .ok (.invokevirtual 271, 3) := by decide +kernel
theorem dX9_blame_47 : decode cX9_blame 47 = .ok (.aload_n 0, 1) := by decide +kernel
theorem dX9_blame_48 : decode cX9_blame 48 = .ok (.getfield 30, 3) := by decide +kernel
theorem dX9_blame_51 : decode cX9_blame 51 = .ok (.dup, 1) := by decide +kernel
theorem dX9_blame_52 : decode cX9_blame 52 = .ok (.getfield 274, 3) := by decide +kernel
theorem dX9_blame_55 : decode cX9_blame 55 = .ok (.iconst 1, 1) := by decide +kernel
theorem dX9_blame_56 : decode cX9_blame 56 = .ok (.iload_n 3, 1) := by decide +kernel
theorem dX9_blame_57 : decode cX9_blame 57 = .ok (.ishl, 1) := by decide +kernel
theorem dX9_blame_58 : decode cX9_blame 58 = .ok (.iconst (-1), 1) := by decide +kernel
theorem dX9_blame_59 : decode cX9_blame 59 = .ok (.ixor, 1) := by decide +kernel
theorem dX9_blame_60 : decode cX9_blame 60 = .ok (.iand, 1) := by decide +kernel
theorem dX9_blame_61 : decode cX9_blame 61 = .ok (.putfield 274, 3) := by decide +kernel
theorem dX9_blame_64 : decode cX9_blame 64 = .ok (.aload_n 0, 1) := by decide +kernel
theorem dX9_blame_65 : decode cX9_blame 65 = .ok (.getfield 41, 3) := by decide +kernel
theorem dX9_blame_68 : decode cX9_blame 68 = .ok (.aload_n 0, 1) := by decide +kernel
theorem dX9_blame_69 : decode cX9_blame 69 = .ok (.getfield 19, 3) := by decide +kernel
theorem dX9_blame_72 : decode cX9_blame 72 = .ok (.aload_n 0, 1) := by decide +kernel
theorem dX9_blame_73 : decode cX9_blame 73 = .ok (.getfield 30, 3) := by decide +kernel
theorem dX9_blame_76 : decode cX9_blame 76 = .ok (.invokevirtual 277, 3) := by decide +kernel
theorem dX9_blame_79 : decode cX9_blame 79 = .ok (.aload_n 0, 1) := by decide +kernel
theorem dX9_blame_80 : decode cX9_blame 80 = .ok (.getfield 41, 3) := by decide +kernel
theorem dX9_blame_83 : decode cX9_blame 83 = .ok (.invokevirtual 268, 3) := by decide +kernel
theorem dX9_blame_86 : decode cX9_blame 86 = .ok (.iload_n 1, 1) := by decide +kernel
theorem dX9_blame_87 : decode cX9_blame 87 = .ok (.if_icmp .ge 13, 3) := by decide +kernel
theorem dX9_blame_90 : decode cX9_blame 90 = .ok (.aload_n 0, 1) := by decide +kernel
theorem dX9_blame_91 : decode cX9_blame 91 = .ok (.getfield 41, 3) := by decide +kernel
theorem dX9_blame_94 : decode cX9_blame 94 = .ok (.invokevirtual 268, 3) := by decide +kernel
theorem dX9_blame_97 : decode cX9_blame 97 = .ok (.istore_n 1, 1) := by decide +kernel
theorem dX9_blame_98 : decode cX9_blame 98 = .ok (.iload_n 3, 1) := by decide +kernel
theorem dX9_blame_99 : decode cX9_blame 99 = .ok (.istore_n 2, 1) := by decide +kernel
theorem dX9_blame_100 : decode cX9_blame 100 = .ok (.iinc 3 1, 3) := by decide +kernel
theorem dX9_blame_103 : decode cX9_blame 103 = .ok (.goto (-78), 3) := by decide +kernel
theorem dX9_blame_106 : decode cX9_blame 106 = .ok (.iload_n 2, 1) := by decide +kernel
theorem dX9_blame_107 : decode cX9_blame 107 = .ok (.ireturn, 1) := by decide +kernel
theorem dX9_bridges_0 : decode cX9_bridges 0 = .ok (.aload_n 0, 1) := by decide +kernel
theorem dX9_bridges_1 : decode cX9_bridges 1 = .ok (.getfield 19, 3) := by decide +kernel
theorem dX9_bridges_4 : decode cX9_bridges 4 = .ok (.iload_n 1, 1) := by decide +kernel
theorem dX9_bridges_5 : decode cX9_bridges 5 = .ok (.invokevirtual 183, 3) := by decide +kernel
theorem dX9_bridges_8 : decode cX9_bridges 8 = .ok (.ifCond .ne 6, 3) := by decide +kernel
theorem dX9_bridges_11 : decode cX9_bridges 11 = .ok (.bipush (-2), 2) := by decide +kernel
theorem dX9_bridges_13 : decode cX9_bridges 13 = .ok (.ireturn, 1) := by decide +kernel
theorem dX9_bridges_14 : decode cX9_bridges 14 = .ok (.aload_n 0, 1) := by decide +kernel
theorem dX9_bridges_15 : decode cX9_bridges 15 = .ok (.getfield 54, 3) := by decide +kernel
theorem dX9_bridges_18 : decode cX9_bridges 18 = .ok (.aload_n 0, 1) := by decide +kernel
theorem dX9_bridges_19 : decode cX9_bridges 19 = .ok (.getfield 37, 3) := by decide +kernel
theorem dX9_bridges_22 : decode cX9_bridges 22 = .ok (.iload_n 1, 1) := by decide +kernel
theorem dX9_bridges_23 : decode cX9_bridges 23 = .ok (.invokevirtual 201, 3) := by decide +kernel
theorem dX9_bridges_26 : decode cX9_bridges 26 = .ok (.aload_n 0, 1) := by decide +kernel
theorem dX9_bridges_27 : decode cX9_bridges 27 = .ok (.getfield 54, 3) := by decide +kernel
theorem dX9_bridges_30 : decode cX9_bridges 30 = .ok (.invokevirtual 224, 3) := by decide +kernel
theorem dX9_bridges_33 : decode cX9_bridges 33 = .ok (.ireturn, 1) := by decide +kernel
theorem dX9_corners_0 : decode cX9_corners 0 = .ok (.iload_n 1, 1) := by decide +kernel
theorem dX9_corners_1 : decode cX9_corners 1 = .ok (.ifCond .lt 19, 3) := by decide +kernel
theorem dX9_corners_4 : decode cX9_corners 4 = .ok (.iload_n 1, 1) := by decide +kernel
theorem dX9_corners_5 : decode cX9_corners 5 = .ok (.iconst 4, 1) := by decide +kernel
theorem dX9_corners_6 : decode cX9_corners 6 = .ok (.if_icmp .gt 14, 3) := by decide +kernel
theorem dX9_corners_9 : decode cX9_corners 9 = .ok (.aload_n 0, 1) := by decide +kernel
theorem dX9_corners_10 : decode cX9_corners 10 = .ok (.getfield 19, 3) := by decide +kernel
theorem dX9_corners_13 : decode cX9_corners 13 = .ok (.iload_n 2, 1) := by decide +kernel
theorem dX9_corners_14 : decode cX9_corners 14 = .ok (.invokevirtual 183, 3) := by decide +kernel
theorem dX9_corners_17 : decode cX9_corners 17 = .ok (.ifCond .ne 6, 3) := by decide +kernel
theorem dX9_corners_20 : decode cX9_corners 20 = .ok (.bipush (-2), 2) := by decide +kernel
theorem dX9_corners_22 : decode cX9_corners 22 = .ok (.ireturn, 1) := by decide +kernel
theorem dX9_corners_23 : decode cX9_corners 23 = .ok (.aload_n 0, 1) := by decide +kernel
theorem dX9_corners_24 : decode cX9_corners 24 = .ok (.getfield 54, 3) := by decide +kernel
theorem dX9_corners_27 : decode cX9_corners 27 = .ok (.aload_n 0, 1) := by decide +kernel
theorem dX9_corners_28 : decode cX9_corners 28 = .ok (.getfield 37, 3) := by decide +kernel
theorem dX9_corners_31 : decode cX9_corners 31 = .ok (.iload_n 2, 1) := by decide +kernel
theorem dX9_corners_32 : decode cX9_corners 32 = .ok (.invokevirtual 201, 3) := by decide +kernel
theorem dX9_corners_35 : decode cX9_corners 35 = .ok (.aload_n 0, 1) := by decide +kernel
theorem dX9_corners_36 : decode cX9_corners 36 = .ok (.getfield 54, 3) := by decide +kernel
theorem dX9_corners_39 : decode cX9_corners 39 = .ok (.iload_n 1, 1) := by decide +kernel
theorem dX9_corners_40 : decode cX9_corners 40 = .ok (.invokevirtual 208, 3) := by decide +kernel
theorem dX9_corners_43 : decode cX9_corners 43 = .ok (.ireturn, 1) := by decide +kernel
theorem dX9_cover_0 : decode cX9_cover 0 = .ok (.aload_n 0, 1) := by decide +kernel
theorem dX9_cover_1 : decode cX9_cover 1 = .ok (.getfield 19, 3) := by decide +kernel
theorem dX9_cover_4 : decode cX9_cover 4 = .ok (.getfield 106, 3) := by decide +kernel
theorem dX9_cover_7 : decode cX9_cover 7 = .ok (.ifCond .ne 8, 3) := by decide +kernel
theorem dX9_cover_10 : decode cX9_cover 10 = .ok (.bipush (-2), 2) := by decide +kernel
theorem dX9_cover_12 : decode cX9_cover 12 = .ok (.goto 10, 3) := by decide +kernel
theorem dX9_cover_15 : decode cX9_cover 15 = .ok (.aload_n 0, 1) := by decide +kernel
theorem dX9_cover_16 : decode cX9_cover 16 = .ok (.invokevirtual 265, 3) := by decide +kernel
theorem dX9_cover_19 : decode cX9_cover 19 = .ok (.invokestatic 240, 3) := by decide +kernel
theorem dX9_cover_22 : decode cX9_cover 22 = .ok (.ireturn, 1) := by decide +kernel
theorem dX9_covers_0 : decode cX9_covers 0 = .ok (.aload_n 0, 1) := by decide +kernel
theorem dX9_covers_1 : decode cX9_covers 1 = .ok (.getfield 19, 3) := by decide +kernel
theorem dX9_covers_4 : decode cX9_covers 4 = .ok (.getfield 106, 3) := by decide +kernel
theorem dX9_covers_7 : decode cX9_covers 7 = .ok (.ifCond .ne 8, 3) := by decide +kernel
theorem dX9_covers_10 : decode cX9_covers 10 = .ok (.bipush (-2), 2) := by decide +kernel
theorem dX9_covers_12 : decode cX9_covers 12 = .ok (.goto 7, 3) := by decide +kernel
theorem dX9_covers_15 : decode cX9_covers 15 = .ok (.aload_n 0, 1) := by decide +kernel
theorem dX9_covers_16 : decode cX9_covers 16 = .ok (.invokevirtual 265, 3) := by decide +kernel
theorem dX9_covers_19 : decode cX9_covers 19 = .ok (.ireturn, 1) := by decide +kernel
theorem dX9_creek_0 : decode cX9_creek 0 = .ok (.aload_n 0, 1) := by decide +kernel
theorem dX9_creek_1 : decode cX9_creek 1 = .ok (.getfield 19, 3) := by decide +kernel
theorem dX9_creek_4 : decode cX9_creek 4 = .ok (.iload_n 1, 1) := by decide +kernel
theorem dX9_creek_5 : decode cX9_creek 5 = .ok (.i2l, 1) := by decide +kernel
theorem dX9_creek_6 : decode cX9_creek 6 = .ok (.invokevirtual 112, 3) := by decide +kernel
theorem dX9_creek_9 : decode cX9_creek 9 = .ok (.istore_n 2, 1) := by decide +kernel
theorem dX9_creek_10 : decode cX9_creek 10 = .ok (.iload_n 2, 1) := by decide +kernel
theorem dX9_creek_11 : decode cX9_creek 11 = .ok (.iconst (-1), 1) := by decide +kernel
theorem dX9_creek_12 : decode cX9_creek 12 = .ok (.if_icmp .ne 6, 3) := by decide +kernel
theorem dX9_creek_15 : decode cX9_creek 15 = .ok (.bipush (-2), 2) := by decide +kernel
theorem dX9_creek_17 : decode cX9_creek 17 = .ok (.ireturn, 1) := by decide +kernel
theorem dX9_creek_18 : decode cX9_creek 18 = .ok (.aload_n 0, 1) := by decide +kernel
theorem dX9_creek_19 : decode cX9_creek 19 = .ok (.getfield 19, 3) := by decide +kernel
theorem dX9_creek_22 : decode cX9_creek 22 = .ok (.invokevirtual 116, 3) := by decide +kernel
theorem dX9_creek_25 : decode cX9_creek 25 = .ok (.iload_n 2, 1) := by decide +kernel
theorem dX9_creek_26 : decode cX9_creek 26 = .ok (.invokestatic 120, 3) := by decide +kernel
theorem dX9_creek_29 : decode cX9_creek 29 = .ok (.invokestatic 124, 3) := by decide +kernel
theorem dX9_creek_32 : decode cX9_creek 32 = .ok (.ireturn, 1) := by decide +kernel
theorem dX9_crossing_0 : decode cX9_crossing 0 = .ok (.aload_n 0, 1) := by decide +kernel
theorem dX9_crossing_1 : decode cX9_crossing 1 = .ok (.getfield 19, 3) := by decide +kernel
theorem dX9_crossing_4 : decode cX9_crossing 4 = .ok (.getfield 106, 3) := by decide +kernel
theorem dX9_crossing_7 : decode cX9_crossing 7 = .ok (.ifCond .ne 6, 3) := by decide +kernel
theorem dX9_crossing_10 : decode cX9_crossing 10 = .ok (.bipush (-2), 2) := by decide +kernel
theorem dX9_crossing_12 : decode cX9_crossing 12 = .ok (.ireturn, 1) := by decide +kernel
theorem dX9_crossing_13 : decode cX9_crossing 13 = .ok (.iconst 0, 1) := by decide +kernel
theorem dX9_crossing_14 : decode cX9_crossing 14 = .ok (.istore_n 1, 1) := by decide +kernel
theorem dX9_crossing_15 : decode cX9_crossing 15 = .ok (.iconst (-1), 1) := by decide +kernel
theorem dX9_crossing_16 : decode cX9_crossing 16 = .ok (.istore_n 2, 1) := by decide +kernel
theorem dX9_crossing_17 : decode cX9_crossing 17 = .ok (.iconst 0, 1) := by decide +kernel
theorem dX9_crossing_18 : decode cX9_crossing 18 = .ok (.istore_n 3, 1) := by decide +kernel
theorem dX9_crossing_19 : decode cX9_crossing 19 = .ok (.iload_n 3, 1) := by decide +kernel
theorem dX9_crossing_20 : decode cX9_crossing 20 = .ok (.bipush 64, 2) := by decide +kernel
theorem dX9_crossing_22 : decode cX9_crossing 22 = .ok (.if_icmp .ge 30, 3) := by decide +kernel
theorem dX9_crossing_25 : decode cX9_crossing 25 = .ok (.aload_n 0, 1) := by decide +kernel
theorem dX9_crossing_26 : decode cX9_crossing 26 = .ok (.iload_n 3, 1) := by decide +kernel
theorem dX9_crossing_27 : decode cX9_crossing 27 = .ok (.invokevirtual 237, 3) := by decide +kernel
theorem dX9_crossing_30 : decode cX9_crossing 30 = .ok (.invokestatic 240, 3) := by decide +kernel
theorem dX9_crossing_33 : decode cX9_crossing 33 = .ok (.istore 4, 2) := by decide +kernel
theorem dX9_crossing_35 : decode cX9_crossing 35 = .ok (.iload 4, 2) := by decide +kernel
theorem dX9_crossing_37 : decode cX9_crossing 37 = .ok (.iload_n 1, 1) := by decide +kernel
theorem dX9_crossing_38 : decode cX9_crossing 38 = .ok (.if_icmp .le 8, 3) := by decide +kernel
theorem dX9_crossing_41 : decode cX9_crossing 41 = .ok (.iload 4, 2) := by decide +kernel
theorem dX9_crossing_43 : decode cX9_crossing 43 = .ok (.istore_n 1, 1) := by decide +kernel
theorem dX9_crossing_44 : decode cX9_crossing 44 = .ok (.iload_n 3, 1) := by decide +kernel
theorem dX9_crossing_45 : decode cX9_crossing 45 = .ok (.istore_n 2, 1) := by decide +kernel
theorem dX9_crossing_46 : decode cX9_crossing 46 = .ok (.iinc 3 1, 3) := by decide +kernel
theorem dX9_crossing_49 : decode cX9_crossing 49 = .ok (.goto (-30), 3) := by decide +kernel
theorem dX9_crossing_52 : decode cX9_crossing 52 = .ok (.iload_n 2, 1) := by decide +kernel
theorem dX9_crossing_53 : decode cX9_crossing 53 = .ok (.invokestatic 135, 3) := by decide +kernel
theorem dX9_crossing_56 : decode cX9_crossing 56 = .ok (.ireturn, 1) := by decide +kernel
theorem dX9_end_0 : decode cX9_end 0 = .ok (.iload_n 1, 1) := by decide +kernel
theorem dX9_end_1 : decode cX9_end 1 = .ok (.ifCond .lt 17, 3) := by decide +kernel
theorem dX9_end_4 : decode cX9_end 4 = .ok (.iload_n 1, 1) := by decide +kernel
theorem dX9_end_5 : decode cX9_end 5 = .ok (.aload_n 0, 1) := by decide +kernel
theorem dX9_end_6 : decode cX9_end 6 = .ok (.getfield 12, 3) := by decide +kernel
theorem dX9_end_9 : decode cX9_end 9 = .ok (.getfield 76, 3) := by decide +kernel
theorem dX9_end_12 : decode cX9_end 12 = .ok (.getfield 80, 3) := by decide +kernel
theorem dX9_end_15 : decode cX9_end 15 = .ok (.if_icmp .le 5, 3) := by decide +kernel
theorem dX9_end_18 : decode cX9_end 18 = .ok (.iconst (-1), 1) := by decide +kernel
theorem dX9_end_19 : decode cX9_end 19 = .ok (.ireturn, 1) := by decide +kernel
theorem dX9_end_20 : decode cX9_end 20 = .ok (.aload_n 0, 1) := by decide +kernel
theorem dX9_end_21 : decode cX9_end 21 = .ok (.getfield 12, 3) := by decide +kernel
theorem dX9_end_24 : decode cX9_end 24 = .ok (.getfield 76, 3) := by decide +kernel
theorem dX9_end_27 : decode cX9_end 27 = .ok (.iload_n 1, 1) := by decide +kernel
theorem dX9_end_28 : decode cX9_end 28 = .ok (.putfield 80, 3) := by decide +kernel
theorem dX9_end_31 : decode cX9_end 31 = .ok (.iload_n 1, 1) := by decide +kernel
theorem dX9_end_32 : decode cX9_end 32 = .ok (.ireturn, 1) := by decide +kernel
theorem dX9_evening_0 : decode cX9_evening 0 = .ok (.aload_n 0, 1) := by decide +kernel
theorem dX9_evening_1 : decode cX9_evening 1 = .ok (.getfield 19, 3) := by decide +kernel
theorem dX9_evening_4 : decode cX9_evening 4 = .ok (.iload_n 1, 1) := by decide +kernel
theorem dX9_evening_5 : decode cX9_evening 5 = .ok (.invokevirtual 183, 3) := by decide +kernel
theorem dX9_evening_8 : decode cX9_evening 8 = .ok (.ifCond .eq 14, 3) := by decide +kernel
theorem dX9_evening_11 : decode cX9_evening 11 = .ok (.iload_n 1, 1) := by decide +kernel
theorem dX9_evening_12 : decode cX9_evening 12 = .ok (.aload_n 0, 1) := by decide +kernel
theorem dX9_evening_13 : decode cX9_evening 13 = .ok (.getfield 19, 3) := by decide +kernel
theorem dX9_evening_16 : decode cX9_evening 16 = .ok (.getfield 186, 3) := by decide +kernel
theorem dX9_evening_19 : decode cX9_evening 19 = .ok (.if_icmp .ne 6, 3) := by decide +kernel
theorem dX9_evening_22 : decode cX9_evening 22 = .ok (.bipush (-2), 2) := by decide +kernel
theorem dX9_evening_24 : decode cX9_evening 24 = .ok (.ireturn, 1) := by decide +kernel
theorem dX9_evening_25 : decode cX9_evening 25 = .ok (.iconst 0, 1) := by decide +kernel
theorem dX9_evening_26 : decode cX9_evening 26 = .ok (.istore_n 2, 1) := by decide +kernel
theorem dX9_evening_27 : decode cX9_evening 27 = .ok (.iconst 0, 1) := by decide +kernel
theorem dX9_evening_28 : decode cX9_evening 28 = .ok (.istore_n 3, 1) := by decide +kernel
theorem dX9_evening_29 : decode cX9_evening 29 = .ok (.iload_n 3, 1) := by decide +kernel
theorem dX9_evening_30 : decode cX9_evening 30 = .ok (.aload_n 0, 1) := by decide +kernel
theorem dX9_evening_31 : decode cX9_evening 31 = .ok (.getfield 19, 3) := by decide +kernel
theorem dX9_evening_34 : decode cX9_evening 34 = .ok (.getfield 189, 3) := by decide +kernel
theorem dX9_evening_37 : decode cX9_evening 37 = .ok (.if_icmp .ge 39, 3) := by decide +kernel
theorem dX9_evening_40 : decode cX9_evening 40 = .ok (.aload_n 0, 1) := by decide +kernel
theorem dX9_evening_41 : decode cX9_evening 41 = .ok (.getfield 19, 3) := by decide +kernel
theorem dX9_evening_44 : decode cX9_evening 44 = .ok (.getfield 145, 3) := by decide +kernel
theorem dX9_evening_47 : decode cX9_evening 47 = .ok (.iload_n 3, 1) := by decide +kernel
theorem dX9_evening_48 : decode cX9_evening 48 = .ok (.iaload, 1) := by decide +kernel
theorem dX9_evening_49 : decode cX9_evening 49 = .ok (.iload_n 1, 1) := by decide +kernel
theorem dX9_evening_50 : decode cX9_evening 50 = .ok (.if_icmp .ne 20, 3) := by decide +kernel
theorem dX9_evening_53 : decode cX9_evening 53 = .ok (.aload_n 0, 1) := by decide +kernel
theorem dX9_evening_54 : decode cX9_evening 54 = .ok (.getfield 37, 3) := by decide +kernel
theorem dX9_evening_57 : decode cX9_evening 57 = .ok (.iload_n 3, 1) := by decide +kernel
theorem dX9_evening_58 : decode cX9_evening 58 = .ok (.invokevirtual 164, 3) := by decide +kernel
theorem dX9_evening_61 : decode cX9_evening 61 = .ok (.ifCond .eq 9, 3) := by decide +kernel
theorem dX9_evening_64 : decode cX9_evening 64 = .ok (.iload_n 2, 1) := by decide +kernel
theorem dX9_evening_65 : decode cX9_evening 65 = .ok (.iconst 1, 1) := by decide +kernel
theorem dX9_evening_66 : decode cX9_evening 66 = .ok (.iload_n 3, 1) := by decide +kernel
theorem dX9_evening_67 : decode cX9_evening 67 = .ok (.ishl, 1) := by decide +kernel
theorem dX9_evening_68 : decode cX9_evening 68 = .ok (.ior, 1) := by decide +kernel
theorem dX9_evening_69 : decode cX9_evening 69 = .ok (.istore_n 2, 1) := by decide +kernel
theorem dX9_evening_70 : decode cX9_evening 70 = .ok (.iinc 3 1, 3) := by decide +kernel
theorem dX9_evening_73 : decode cX9_evening 73 = .ok (.goto (-44), 3) := by decide +kernel
theorem dX9_evening_76 : decode cX9_evening 76 = .ok (.iload_n 2, 1) := by decide +kernel
theorem dX9_evening_77 : decode cX9_evening 77 = .ok (.ireturn, 1) := by decide +kernel
theorem dX9_farthest_0 : decode cX9_farthest 0 = .ok (.aload_n 0, 1) := by decide +kernel
theorem dX9_farthest_1 : decode cX9_farthest 1 = .ok (.getfield 19, 3) := by decide +kernel
theorem dX9_farthest_4 : decode cX9_farthest 4 = .ok (.iload_n 1, 1) := by decide +kernel
theorem dX9_farthest_5 : decode cX9_farthest 5 = .ok (.i2l, 1) := by decide +kernel
theorem dX9_farthest_6 : decode cX9_farthest 6 = .ok (.invokevirtual 112, 3) := by decide +kernel
theorem dX9_farthest_9 : decode cX9_farthest 9 = .ok (.istore_n 3, 1) := by decide +kernel
theorem dX9_farthest_10 : decode cX9_farthest 10 = .ok (.iload_n 3, 1) := by decide +kernel
theorem dX9_farthest_11 : decode cX9_farthest 11 = .ok (.iconst (-1), 1) := by decide +kernel
theorem dX9_farthest_12 : decode cX9_farthest 12 = .ok (.if_icmp .eq 14, 3) := by decide +kernel
theorem dX9_farthest_15 : decode cX9_farthest 15 = .ok (.aload_n 0, 1) := by decide +kernel
theorem dX9_farthest_16 : decode cX9_farthest 16 = .ok (.getfield 19, 3) := by decide +kernel
theorem dX9_farthest_19 : decode cX9_farthest 19 = .ok (.iload_n 2, 1) := by decide +kernel
theorem dX9_farthest_20 : decode cX9_farthest 20 = .ok (.invokevirtual 183, 3) := by decide +kernel
theorem dX9_farthest_23 : decode cX9_farthest 23 = .ok (.ifCond .ne 6, 3) := by decide +kernel
theorem dX9_farthest_26 : decode cX9_farthest 26 = .ok (.bipush (-2), 2) := by decide +kernel
theorem dX9_farthest_28 : decode cX9_farthest 28 = .ok (.ireturn, 1) := by decide +kernel
theorem dX9_farthest_29 : decode cX9_farthest 29 = .ok (.aload_n 0, 1) := by decide +kernel
theorem dX9_farthest_30 : decode cX9_farthest 30 = .ok (.getfield 54, 3) := by decide +kernel
theorem dX9_farthest_33 : decode cX9_farthest 33 = .ok (.aload_n 0, 1) := by decide +kernel
theorem dX9_farthest_34 : decode cX9_farthest 34 = .ok (.getfield 37, 3) := by decide +kernel
theorem dX9_farthest_37 : decode cX9_farthest 37 = .ok (.iload_n 2, 1) := by decide +kernel
theorem dX9_farthest_38 : decode cX9_farthest 38 = .ok (.invokevirtual 201, 3) := by decide +kernel
theorem dX9_farthest_41 : decode cX9_farthest 41 = .ok (.aload_n 0, 1) := by decide +kernel
theorem dX9_farthest_42 : decode cX9_farthest 42 = .ok (.getfield 54, 3) := by decide +kernel
theorem dX9_farthest_45 : decode cX9_farthest 45 = .ok (.iload_n 3, 1) := by decide +kernel
theorem dX9_farthest_46 : decode cX9_farthest 46 = .ok (.invokevirtual 234, 3) := by decide +kernel
theorem dX9_farthest_49 : decode cX9_farthest 49 = .ok (.invokestatic 135, 3) := by decide +kernel
theorem dX9_farthest_52 : decode cX9_farthest 52 = .ok (.ireturn, 1) := by decide +kernel
theorem dX9_fault_0 : decode cX9_fault 0 = .ok (.iload_n 1, 1) := by decide +kernel
theorem dX9_fault_1 : decode cX9_fault 1 = .ok (.ifCond .ne 11, 3) := by decide +kernel
theorem dX9_fault_4 : decode cX9_fault 4 = .ok (.aload_n 0, 1) := by decide +kernel
theorem dX9_fault_5 : decode cX9_fault 5 = .ok (.getfield 12, 3) := by decide +kernel
theorem dX9_fault_8 : decode cX9_fault 8 = .ok (.getfield 93, 3) := by decide +kernel
theorem dX9_fault_11 : decode cX9_fault 11 = .ok (.ireturn, 1) := by decide +kernel
theorem dX9_fault_12 : decode cX9_fault 12 = .ok (.iload_n 1, 1) := by decide +kernel
theorem dX9_fault_13 : decode cX9_fault 13 = .ok (.iconst 1, 1) := by decide +kernel
theorem dX9_fault_14 : decode cX9_fault 14 = .ok (.if_icmp .ne 13, 3) := by decide +kernel
theorem dX9_fault_17 : decode cX9_fault 17 = .ok (.aload_n 0, 1) := by decide +kernel
theorem dX9_fault_18 : decode cX9_fault 18 = .ok (.getfield 12, 3) := by decide +kernel
theorem dX9_fault_21 : decode cX9_fault 21 = .ok (.getfield 109, 3) := by decide +kernel
theorem dX9_fault_24 : decode cX9_fault 24 = .ok (.goto 4, 3) := by decide +kernel
theorem dX9_fault_27 : decode cX9_fault 27 = .ok (.iconst (-1), 1) := by decide +kernel
theorem dX9_fault_28 : decode cX9_fault 28 = .ok (.ireturn, 1) := by decide +kernel
theorem dX9_feed_0 : decode cX9_feed 0 = .ok (.aload_n 0, 1) := by decide +kernel
theorem dX9_feed_1 : decode cX9_feed 1 = .ok (.getfield 12, 3) := by decide +kernel
theorem dX9_feed_4 : decode cX9_feed 4 = .ok (.getfield 76, 3) := by decide +kernel
theorem dX9_feed_7 : decode cX9_feed 7 = .ok (.getfield 80, 3) := by decide +kernel
theorem dX9_feed_10 : decode cX9_feed 10 = .ok (.sipush 880, 3) := by decide +kernel
theorem dX9_feed_13 : decode cX9_feed 13 = .ok (.if_icmp .le 5, 3) := by decide +kernel
theorem dX9_feed_16 : decode cX9_feed 16 = .ok (.iconst (-1), 1) := by decide +kernel
theorem dX9_feed_17 : decode cX9_feed 17 = .ok (.ireturn, 1) := by decide +kernel
theorem dX9_feed_18 : decode cX9_feed 18 = .ok (.aload_n 0, 1) := by decide +kernel
theorem dX9_feed_19 : decode cX9_feed 19 = .ok (.getfield 12, 3) := by decide +kernel
theorem dX9_feed_22 : decode cX9_feed 22 = .ok (.getfield 76, 3) := by decide +kernel
theorem dX9_feed_25 : decode cX9_feed 25 = .ok (.iload_n 1, 1) := by decide +kernel
theorem dX9_feed_26 : decode cX9_feed 26 = .ok (.invokevirtual 86, 3) := by decide +kernel
theorem dX9_feed_29 : decode cX9_feed 29 = .ok (.aload_n 0, 1) := by decide +kernel
theorem dX9_feed_30 : decode cX9_feed 30 = .ok (.getfield 12, 3) := by decide +kernel
theorem dX9_feed_33 : decode cX9_feed 33 = .ok (.getfield 76, 3) := by decide +kernel
theorem dX9_feed_36 : decode cX9_feed 36 = .ok (.iload_n 2, 1) := by decide +kernel
theorem dX9_feed_37 : decode cX9_feed 37 = .ok (.invokevirtual 86, 3) := by decide +kernel
theorem dX9_feed_40 : decode cX9_feed 40 = .ok (.aload_n 0, 1) := by decide +kernel
theorem dX9_feed_41 : decode cX9_feed 41 = .ok (.getfield 12, 3) := by decide +kernel
theorem dX9_feed_44 : decode cX9_feed 44 = .ok (.getfield 76, 3) := by decide +kernel
theorem dX9_feed_47 : decode cX9_feed 47 = .ok (.iload_n 3, 1) := by decide +kernel
theorem dX9_feed_48 : decode cX9_feed 48 = .ok (.invokevirtual 86, 3) := by decide +kernel
theorem dX9_feed_51 : decode cX9_feed 51 = .ok (.aload_n 0, 1) := by decide +kernel
theorem dX9_feed_52 : decode cX9_feed 52 = .ok (.getfield 12, 3) := by decide +kernel
theorem dX9_feed_55 : decode cX9_feed 55 = .ok (.getfield 76, 3) := by decide +kernel
theorem dX9_feed_58 : decode cX9_feed 58 = .ok (.iload 4, 2) := by decide +kernel
theorem dX9_feed_60 : decode cX9_feed 60 = .ok (.invokevirtual 86, 3) := by decide +kernel
theorem dX9_feed_63 : decode cX9_feed 63 = .ok (.aload_n 0, 1) := by decide +kernel
theorem dX9_feed_64 : decode cX9_feed 64 = .ok (.getfield 12, 3) := by decide +kernel
theorem dX9_feed_67 : decode cX9_feed 67 = .ok (.getfield 76, 3) := by decide +kernel
theorem dX9_feed_70 : decode cX9_feed 70 = .ok (.iload 5, 2) := by decide +kernel
theorem dX9_feed_72 : decode cX9_feed 72 = .ok (.invokevirtual 86, 3) := by decide +kernel
theorem dX9_feed_75 : decode cX9_feed 75 = .ok (.aload_n 0, 1) := by decide +kernel
theorem dX9_feed_76 : decode cX9_feed 76 = .ok (.getfield 12, 3) := by decide +kernel
theorem dX9_feed_79 : decode cX9_feed 79 = .ok (.getfield 76, 3) := by decide +kernel
theorem dX9_feed_82 : decode cX9_feed 82 = .ok (.getfield 80, 3) := by decide +kernel
theorem dX9_feed_85 : decode cX9_feed 85 = .ok (.ireturn, 1) := by decide +kernel
theorem dX9_first_0 : decode cX9_first 0 = .ok (.aload_n 0, 1) := by decide +kernel
theorem dX9_first_1 : decode cX9_first 1 = .ok (.getfield 19, 3) := by decide +kernel
theorem dX9_first_4 : decode cX9_first 4 = .ok (.iload_n 1, 1) := by decide +kernel
theorem dX9_first_5 : decode cX9_first 5 = .ok (.i2l, 1) := by decide +kernel
theorem dX9_first_6 : decode cX9_first 6 = .ok (.invokevirtual 112, 3) := by decide +kernel
theorem dX9_first_9 : decode cX9_first 9 = .ok (.istore_n 2, 1) := by decide +kernel
theorem dX9_first_10 : decode cX9_first 10 = .ok (.iload_n 2, 1) := by decide +kernel
theorem dX9_first_11 : decode cX9_first 11 = .ok (.iconst (-1), 1) := by decide +kernel
theorem dX9_first_12 : decode cX9_first 12 = .ok (.if_icmp .ne 6, 3) := by decide +kernel
theorem dX9_first_15 : decode cX9_first 15 = .ok (.bipush (-2), 2) := by decide +kernel
theorem dX9_first_17 : decode cX9_first 17 = .ok (.ireturn, 1) := by decide +kernel
theorem dX9_first_18 : decode cX9_first 18 = .ok (.iconst 0, 1) := by decide +kernel
theorem dX9_first_19 : decode cX9_first 19 = .ok (.istore_n 3, 1) := by decide +kernel
theorem dX9_first_20 : decode cX9_first 20 = .ok (.iload_n 3, 1) := by decide +kernel
theorem dX9_first_21 : decode cX9_first 21 = .ok (.aload_n 0, 1) := by decide +kernel
theorem dX9_first_22 : decode cX9_first 22 = .ok (.getfield 19, 3) := by decide +kernel
theorem dX9_first_25 : decode cX9_first 25 = .ok (.getfield 186, 3) := by decide +kernel
theorem dX9_first_28 : decode cX9_first 28 = .ok (.if_icmp .gt 27, 3) := by decide +kernel
theorem dX9_first_31 : decode cX9_first 31 = .ok (.aload_n 0, 1) := by decide +kernel
theorem dX9_first_32 : decode cX9_first 32 = .ok (.getfield 37, 3) := by decide +kernel
theorem dX9_first_35 : decode cX9_first 35 = .ok (.getfield 195, 3) := by decide +kernel
theorem dX9_first_38 : decode cX9_first 38 = .ok (.iload_n 3, 1) := by decide +kernel
theorem dX9_first_39 : decode cX9_first 39 = .ok (.laload, 1) := by decide +kernel
theorem dX9_first_40 : decode cX9_first 40 = .ok (.iload_n 2, 1) := by decide +kernel
theorem dX9_first_41 : decode cX9_first 41 = .ok (.invokestatic 120, 3) := by decide +kernel
theorem dX9_first_44 : decode cX9_first 44 = .ok (.ifCond .eq 5, 3) := by decide +kernel
theorem dX9_first_47 : decode cX9_first 47 = .ok (.iload_n 3, 1) := by decide +kernel
theorem dX9_first_48 : decode cX9_first 48 = .ok (.ireturn, 1) := by decide +kernel
theorem dX9_first_49 : decode cX9_first 49 = .ok (.iinc 3 1, 3) := by decide +kernel
theorem dX9_first_52 : decode cX9_first 52 = .ok (.goto (-32), 3) := by decide +kernel
theorem dX9_first_55 : decode cX9_first 55 = .ok (.iconst (-1), 1) := by decide +kernel
theorem dX9_first_56 : decode cX9_first 56 = .ok (.ireturn, 1) := by decide +kernel
theorem dX9_ford_0 : decode cX9_ford 0 = .ok (.aload_n 0, 1) := by decide +kernel
theorem dX9_ford_1 : decode cX9_ford 1 = .ok (.getfield 19, 3) := by decide +kernel
theorem dX9_ford_4 : decode cX9_ford 4 = .ok (.getfield 106, 3) := by decide +kernel
theorem dX9_ford_7 : decode cX9_ford 7 = .ok (.ifCond .ne 6, 3) := by decide +kernel
theorem dX9_ford_10 : decode cX9_ford 10 = .ok (.bipush (-2), 2) := by decide +kernel
theorem dX9_ford_12 : decode cX9_ford 12 = .ok (.ireturn, 1) := by decide +kernel
theorem dX9_ford_13 : decode cX9_ford 13 = .ok (.aload_n 0, 1) := by decide +kernel
theorem dX9_ford_14 : decode cX9_ford 14 = .ok (.getfield 37, 3) := by decide +kernel
theorem dX9_ford_17 : decode cX9_ford 17 = .ok (.aload_n 0, 1) := by decide +kernel
theorem dX9_ford_18 : decode cX9_ford 18 = .ok (.getfield 19, 3) := by decide +kernel
theorem dX9_ford_21 : decode cX9_ford 21 = .ok (.getfield 186, 3) := by decide +kernel
theorem dX9_ford_24 : decode cX9_ford 24 = .ok (.invokevirtual 198, 3) := by decide +kernel
theorem dX9_ford_27 : decode cX9_ford 27 = .ok (.istore_n 1, 1) := by decide +kernel
theorem dX9_ford_28 : decode cX9_ford 28 = .ok (.iconst (-1), 1) := by decide +kernel
theorem dX9_ford_29 : decode cX9_ford 29 = .ok (.istore_n 2, 1) := by decide +kernel
theorem dX9_ford_30 : decode cX9_ford 30 = .ok (.iconst 0, 1) := by decide +kernel
theorem dX9_ford_31 : decode cX9_ford 31 = .ok (.istore_n 3, 1) := by decide +kernel
theorem dX9_ford_32 : decode cX9_ford 32 = .ok (.iload_n 3, 1) := by decide +kernel
theorem dX9_ford_33 : decode cX9_ford 33 = .ok (.aload_n 0, 1) := by decide +kernel
theorem dX9_ford_34 : decode cX9_ford 34 = .ok (.getfield 19, 3) := by decide +kernel
theorem dX9_ford_37 : decode cX9_ford 37 = .ok (.getfield 281, 3) := by decide +kernel
theorem dX9_ford_40 : decode cX9_ford 40 = .ok (.if_icmp .ge 98, 3) := by decide +kernel
theorem dX9_ford_43 : decode cX9_ford 43 = .ok (.aload_n 0, 1) := by decide +kernel
theorem dX9_ford_44 : decode cX9_ford 44 = .ok (.getfield 30, 3) := by decide +kernel
theorem dX9_ford_47 : decode cX9_ford 47 = .ok (.aload_n 0, 1) := by decide +kernel
theorem dX9_ford_48 : decode cX9_ford 48 = .ok (.getfield 19, 3) := by decide +kernel
theorem dX9_ford_51 : decode cX9_ford 51 = .ok (.invokevirtual 271, 3) := by decide +kernel
theorem dX9_ford_54 : decode cX9_ford 54 = .ok (.aload_n 0, 1) := by decide +kernel
theorem dX9_ford_55 : decode cX9_ford 55 = .ok (.getfield 30, 3) := by decide +kernel
theorem dX9_ford_58 : decode cX9_ford 58 = .ok (.dup, 1) := by decide +kernel
theorem dX9_ford_59 : decode cX9_ford 59 = .ok (.getfield 284, 3) := by decide +kernel
theorem dX9_ford_62 : decode cX9_ford 62 = .ok (.aload_n 0, 1) := by decide +kernel
theorem dX9_ford_63 : decode cX9_ford 63 = .ok (.getfield 19, 3) := by decide +kernel
theorem dX9_ford_66 : decode cX9_ford 66 = .ok (.getfield 287, 3) := by decide +kernel
theorem dX9_ford_69 : decode cX9_ford 69 = .ok (.iload_n 3, 1) := by decide +kernel
theorem dX9_ford_70 : decode cX9_ford 70 = .ok (.iaload, 1) := by decide +kernel
theorem dX9_ford_71 : decode cX9_ford 71 = .ok (.invokestatic 290, 3) := by decide +kernel
theorem dX9_ford_74 : decode cX9_ford 74 = .ok (.ldc2_w 293, 3) := by decide +kernel
theorem dX9_ford_77 : decode cX9_ford 77 = .ok (.lxor, 1) := by decide +kernel
theorem dX9_ford_78 : decode cX9_ford 78 = .ok (.land, 1) := by decide +kernel
theorem dX9_ford_79 : decode cX9_ford 79 = .ok (.putfield 284, 3) := by decide +kernel
theorem dX9_ford_82 : decode cX9_ford 82 = .ok (.aload_n 0, 1) := by decide +kernel
theorem dX9_ford_83 : decode cX9_ford 83 = .ok (.getfield 41, 3) := by decide +kernel
theorem dX9_ford_86 : decode cX9_ford 86 = .ok (.aload_n 0, 1) := by decide +kernel
theorem dX9_ford_87 : decode cX9_ford 87 = .ok (.getfield 19, 3) := by decide +kernel
theorem dX9_ford_90 : decode cX9_ford 90 = .ok (.aload_n 0, 1) := by decide +kernel
theorem dX9_ford_91 : decode cX9_ford 91 = .ok (.getfield 30, 3) := by decide +kernel
theorem dX9_ford_94 : decode cX9_ford 94 = .ok (.invokevirtual 277, 3) := by decide +kernel
theorem dX9_ford_97 : decode cX9_ford 97 = .ok (.aload_n 0, 1) := by decide +kernel
theorem dX9_ford_98 : decode cX9_ford 98 = .ok (.getfield 41, 3) := by decide +kernel
theorem dX9_ford_101 : decode cX9_ford 101 = .ok (.aload_n 0, 1) := by decide +kernel
theorem dX9_ford_102 : decode cX9_ford 102 = .ok (.getfield 19, 3) := by decide +kernel
theorem dX9_ford_105 : decode cX9_ford 105 = .ok (.getfield 186, 3) := by decide +kernel
theorem dX9_ford_108 : decode cX9_ford 108 = .ok (.invokevirtual 198, 3) := by decide +kernel
theorem dX9_ford_111 : decode cX9_ford 111 = .ok (.iload_n 1, 1) := by decide +kernel
theorem dX9_ford_112 : decode cX9_ford 112 = .ok (.if_icmp .le 20, 3) := by decide +kernel
theorem dX9_ford_115 : decode cX9_ford 115 = .ok (.aload_n 0, 1) := by decide +kernel
theorem dX9_ford_116 : decode cX9_ford 116 = .ok (.getfield 41, 3) := by decide +kernel
theorem dX9_ford_119 : decode cX9_ford 119 = .ok (.aload_n 0, 1) := by decide +kernel
theorem dX9_ford_120 : decode cX9_ford 120 = .ok (.getfield 19, 3) := by decide +kernel
theorem dX9_ford_123 : decode cX9_ford 123 = .ok (.getfield 186, 3) := by decide +kernel
theorem dX9_ford_126 : decode cX9_ford 126 = .ok (.invokevirtual 198, 3) := by decide +kernel
theorem dX9_ford_129 : decode cX9_ford 129 = .ok (.istore_n 1, 1) := by decide +kernel
theorem dX9_ford_130 : decode cX9_ford 130 = .ok (.iload_n 3, 1) := by decide +kernel
theorem dX9_ford_131 : decode cX9_ford 131 = .ok (.istore_n 2, 1) := by decide +kernel
theorem dX9_ford_132 : decode cX9_ford 132 = .ok (.iinc 3 1, 3) := by decide +kernel
theorem dX9_ford_135 : decode cX9_ford 135 = .ok (.goto (-103), 3) := by decide +kernel
theorem dX9_ford_138 : decode cX9_ford 138 = .ok (.iload_n 2, 1) := by decide +kernel
theorem dX9_ford_139 : decode cX9_ford 139 = .ok (.ireturn, 1) := by decide +kernel
theorem dX9_grief_0 : decode cX9_grief 0 = .ok (.aload_n 0, 1) := by decide +kernel
theorem dX9_grief_1 : decode cX9_grief 1 = .ok (.getfield 19, 3) := by decide +kernel
theorem dX9_grief_4 : decode cX9_grief 4 = .ok (.iload_n 1, 1) := by decide +kernel
theorem dX9_grief_5 : decode cX9_grief 5 = .ok (.i2l, 1) := by decide +kernel
theorem dX9_grief_6 : decode cX9_grief 6 = .ok (.invokevirtual 128, 3) := by decide +kernel
theorem dX9_grief_9 : decode cX9_grief 9 = .ok (.ifCond .eq 7, 3) := by decide +kernel
theorem dX9_grief_12 : decode cX9_grief 12 = .ok (.iload_n 2, 1) := by decide +kernel
theorem dX9_grief_13 : decode cX9_grief 13 = .ok (.ifCond .ge 6, 3) := by decide +kernel
theorem dX9_grief_16 : decode cX9_grief 16 = .ok (.bipush (-2), 2) := by decide +kernel
theorem dX9_grief_18 : decode cX9_grief 18 = .ok (.ireturn, 1) := by decide +kernel
theorem dX9_grief_19 : decode cX9_grief 19 = .ok (.iload_n 2, 1) := by decide +kernel
theorem dX9_grief_20 : decode cX9_grief 20 = .ok (.aload_n 0, 1) := by decide +kernel
theorem dX9_grief_21 : decode cX9_grief 21 = .ok (.getfield 19, 3) := by decide +kernel
theorem dX9_grief_24 : decode cX9_grief 24 = .ok (.getfield 148, 3) := by decide +kernel
theorem dX9_grief_27 : decode cX9_grief 27 = .ok (.iload_n 1, 1) := by decide +kernel
theorem dX9_grief_28 : decode cX9_grief 28 = .ok (.iaload, 1) := by decide +kernel
theorem dX9_grief_29 : decode cX9_grief 29 = .ok (.if_icmp .ge 20, 3) := by decide +kernel
theorem dX9_grief_32 : decode cX9_grief 32 = .ok (.aload_n 0, 1) := by decide +kernel
theorem dX9_grief_33 : decode cX9_grief 33 = .ok (.getfield 19, 3) := by decide +kernel
theorem dX9_grief_36 : decode cX9_grief 36 = .ok (.getfield 151, 3) := by decide +kernel
theorem dX9_grief_39 : decode cX9_grief 39 = .ok (.iload_n 1, 1) := by decide +kernel
theorem dX9_grief_40 : decode cX9_grief 40 = .ok (.bipush 8, 2) := by decide +kernel
theorem dX9_grief_42 : decode cX9_grief 42 = .ok (.imul, 1) := by decide +kernel
theorem dX9_grief_43 : decode cX9_grief 43 = .ok (.iload_n 2, 1) := by decide +kernel
theorem dX9_grief_44 : decode cX9_grief 44 = .ok (.iadd, 1) := by decide +kernel
theorem dX9_grief_45 : decode cX9_grief 45 = .ok (.iaload, 1) := by decide +kernel
theorem dX9_grief_46 : decode cX9_grief 46 = .ok (.goto 4, 3) := by decide +kernel
theorem dX9_grief_49 : decode cX9_grief 49 = .ok (.iconst (-1), 1) := by decide +kernel
theorem dX9_grief_50 : decode cX9_grief 50 = .ok (.ireturn, 1) := by decide +kernel
theorem dX9_ground_0 : decode cX9_ground 0 = .ok (.aload_n 0, 1) := by decide +kernel
theorem dX9_ground_1 : decode cX9_ground 1 = .ok (.getfield 19, 3) := by decide +kernel
theorem dX9_ground_4 : decode cX9_ground 4 = .ok (.iload_n 1, 1) := by decide +kernel
theorem dX9_ground_5 : decode cX9_ground 5 = .ok (.i2l, 1) := by decide +kernel
theorem dX9_ground_6 : decode cX9_ground 6 = .ok (.invokevirtual 128, 3) := by decide +kernel
theorem dX9_ground_9 : decode cX9_ground 9 = .ok (.ifCond .ne 6, 3) := by decide +kernel
theorem dX9_ground_12 : decode cX9_ground 12 = .ok (.bipush (-2), 2) := by decide +kernel
theorem dX9_ground_14 : decode cX9_ground 14 = .ok (.ireturn, 1) := by decide +kernel
theorem dX9_ground_15 : decode cX9_ground 15 = .ok (.aload_n 0, 1) := by decide +kernel
theorem dX9_ground_16 : decode cX9_ground 16 = .ok (.getfield 37, 3) := by decide +kernel
theorem dX9_ground_19 : decode cX9_ground 19 = .ok (.iload_n 1, 1) := by decide +kernel
theorem dX9_ground_20 : decode cX9_ground 20 = .ok (.invokevirtual 164, 3) := by decide +kernel
theorem dX9_ground_23 : decode cX9_ground 23 = .ok (.ifCond .eq 18, 3) := by decide +kernel
theorem dX9_ground_26 : decode cX9_ground 26 = .ok (.aload_n 0, 1) := by decide +kernel
theorem dX9_ground_27 : decode cX9_ground 27 = .ok (.getfield 37, 3) := by decide +kernel
theorem dX9_ground_30 : decode cX9_ground 30 = .ok (.getfield 171, 3) := by decide +kernel
theorem dX9_ground_33 : decode cX9_ground 33 = .ok (.iload_n 1, 1) := by decide +kernel
theorem dX9_ground_34 : decode cX9_ground 34 = .ok (.laload, 1) := by decide +kernel
theorem dX9_ground_35 : decode cX9_ground 35 = .ok (.invokestatic 175, 3) := by decide +kernel
theorem dX9_ground_38 : decode cX9_ground 38 = .ok (.goto 4, 3) := by decide +kernel
theorem dX9_ground_41 : decode cX9_ground 41 = .ok (.iconst (-1), 1) := by decide +kernel
theorem dX9_ground_42 : decode cX9_ground 42 = .ok (.ireturn, 1) := by decide +kernel
theorem dX9_haunt_0 : decode cX9_haunt 0 = .ok (.aload_n 0, 1) := by decide +kernel
theorem dX9_haunt_1 : decode cX9_haunt 1 = .ok (.getfield 19, 3) := by decide +kernel
theorem dX9_haunt_4 : decode cX9_haunt 4 = .ok (.iload_n 1, 1) := by decide +kernel
theorem dX9_haunt_5 : decode cX9_haunt 5 = .ok (.i2l, 1) := by decide +kernel
theorem dX9_haunt_6 : decode cX9_haunt 6 = .ok (.invokevirtual 128, 3) := by decide +kernel
theorem dX9_haunt_9 : decode cX9_haunt 9 = .ok (.ifCond .ne 6, 3) := by decide +kernel
theorem dX9_haunt_12 : decode cX9_haunt 12 = .ok (.bipush (-2), 2) := by decide +kernel
theorem dX9_haunt_14 : decode cX9_haunt 14 = .ok (.ireturn, 1) := by decide +kernel
theorem dX9_haunt_15 : decode cX9_haunt 15 = .ok (.iconst 0, 1) := by decide +kernel
theorem dX9_haunt_16 : decode cX9_haunt 16 = .ok (.istore_n 2, 1) := by decide +kernel
theorem dX9_haunt_17 : decode cX9_haunt 17 = .ok (.iconst (-1), 1) := by decide +kernel
theorem dX9_haunt_18 : decode cX9_haunt 18 = .ok (.istore_n 3, 1) := by decide +kernel
theorem dX9_haunt_19 : decode cX9_haunt 19 = .ok (.iconst 0, 1) := by decide +kernel
theorem dX9_haunt_20 : decode cX9_haunt 20 = .ok (.istore 4, 2) := by decide +kernel
theorem dX9_haunt_22 : decode cX9_haunt 22 = .ok (.iload 4, 2) := by decide +kernel
theorem dX9_haunt_24 : decode cX9_haunt 24 = .ok (.bipush 64, 2) := by decide +kernel
theorem dX9_haunt_26 : decode cX9_haunt 26 = .ok (.if_icmp .ge 33, 3) := by decide +kernel
theorem dX9_haunt_29 : decode cX9_haunt 29 = .ok (.aload_n 0, 1) := by decide +kernel
theorem dX9_haunt_30 : decode cX9_haunt 30 = .ok (.getfield 37, 3) := by decide +kernel
theorem dX9_haunt_33 : decode cX9_haunt 33 = .ok (.iload_n 1, 1) := by decide +kernel
theorem dX9_haunt_34 : decode cX9_haunt 34 = .ok (.iload 4, 2) := by decide +kernel
theorem dX9_haunt_36 : decode cX9_haunt 36 = .ok (.invokevirtual 180, 3) := by decide +kernel
theorem dX9_haunt_39 : decode cX9_haunt 39 = .ok (.istore 5, 2) := by decide +kernel
theorem dX9_haunt_41 : decode cX9_haunt 41 = .ok (.iload 5, 2) := by decide +kernel
theorem dX9_haunt_43 : decode cX9_haunt 43 = .ok (.iload_n 2, 1) := by decide +kernel
theorem dX9_haunt_44 : decode cX9_haunt 44 = .ok (.if_icmp .le 9, 3) := by decide +kernel
theorem dX9_haunt_47 : decode cX9_haunt 47 = .ok (.iload 5, 2) := by decide +kernel
theorem dX9_haunt_49 : decode cX9_haunt 49 = .ok (.istore_n 2, 1) := by decide +kernel
theorem dX9_haunt_50 : decode cX9_haunt 50 = .ok (.iload 4, 2) := by decide +kernel
theorem dX9_haunt_52 : decode cX9_haunt 52 = .ok (.istore_n 3, 1) := by decide +kernel
theorem dX9_haunt_53 : decode cX9_haunt 53 = .ok (.iinc 4 1, 3) := by decide +kernel
theorem dX9_haunt_56 : decode cX9_haunt 56 = .ok (.goto (-34), 3) := by decide +kernel
theorem dX9_haunt_59 : decode cX9_haunt 59 = .ok (.iload_n 3, 1) := by decide +kernel
theorem dX9_haunt_60 : decode cX9_haunt 60 = .ok (.invokestatic 135, 3) := by decide +kernel
theorem dX9_haunt_63 : decode cX9_haunt 63 = .ok (.ireturn, 1) := by decide +kernel
theorem dX9_house_0 : decode cX9_house 0 = .ok (.aload_n 0, 1) := by decide +kernel
theorem dX9_house_1 : decode cX9_house 1 = .ok (.getfield 19, 3) := by decide +kernel
theorem dX9_house_4 : decode cX9_house 4 = .ok (.iload_n 1, 1) := by decide +kernel
theorem dX9_house_5 : decode cX9_house 5 = .ok (.invokevirtual 247, 3) := by decide +kernel
theorem dX9_house_8 : decode cX9_house 8 = .ok (.ifCond .eq 14, 3) := by decide +kernel
theorem dX9_house_11 : decode cX9_house 11 = .ok (.aload_n 0, 1) := by decide +kernel
theorem dX9_house_12 : decode cX9_house 12 = .ok (.getfield 19, 3) := by decide +kernel
theorem dX9_house_15 : decode cX9_house 15 = .ok (.iload_n 2, 1) := by decide +kernel
theorem dX9_house_16 : decode cX9_house 16 = .ok (.invokevirtual 183, 3) := by decide +kernel
theorem dX9_house_19 : decode cX9_house 19 = .ok (.ifCond .ne 6, 3) := by decide +kernel
theorem dX9_house_22 : decode cX9_house 22 = .ok (.bipush (-2), 2) := by decide +kernel
theorem dX9_house_24 : decode cX9_house 24 = .ok (.ireturn, 1) := by decide +kernel
theorem dX9_house_25 : decode cX9_house 25 = .ok (.aload_n 0, 1) := by decide +kernel
theorem dX9_house_26 : decode cX9_house 26 = .ok (.getfield 37, 3) := by decide +kernel
theorem dX9_house_29 : decode cX9_house 29 = .ok (.getfield 250, 3) := by decide +kernel
theorem dX9_house_32 : decode cX9_house 32 = .ok (.iload_n 2, 1) := by decide +kernel
theorem dX9_house_33 : decode cX9_house 33 = .ok (.bipush 6, 2) := by decide +kernel
theorem dX9_house_35 : decode cX9_house 35 = .ok (.imul, 1) := by decide +kernel
theorem dX9_house_36 : decode cX9_house 36 = .ok (.iload_n 1, 1) := by decide +kernel
theorem dX9_house_37 : decode cX9_house 37 = .ok (.iadd, 1) := by decide +kernel
theorem dX9_house_38 : decode cX9_house 38 = .ok (.iaload, 1) := by decide +kernel
theorem dX9_house_39 : decode cX9_house 39 = .ok (.invokestatic 135, 3) := by decide +kernel
theorem dX9_house_42 : decode cX9_house 42 = .ok (.ireturn, 1) := by decide +kernel
theorem dX9_joins_0 : decode cX9_joins 0 = .ok (.aload_n 0, 1) := by decide +kernel
theorem dX9_joins_1 : decode cX9_joins 1 = .ok (.getfield 19, 3) := by decide +kernel
theorem dX9_joins_4 : decode cX9_joins 4 = .ok (.iload_n 1, 1) := by decide +kernel
theorem dX9_joins_5 : decode cX9_joins 5 = .ok (.i2l, 1) := by decide +kernel
theorem dX9_joins_6 : decode cX9_joins 6 = .ok (.invokevirtual 112, 3) := by decide +kernel
theorem dX9_joins_9 : decode cX9_joins 9 = .ok (.istore_n 3, 1) := by decide +kernel
theorem dX9_joins_10 : decode cX9_joins 10 = .ok (.iload_n 3, 1) := by decide +kernel
theorem dX9_joins_11 : decode cX9_joins 11 = .ok (.iconst (-1), 1) := by decide +kernel
theorem dX9_joins_12 : decode cX9_joins 12 = .ok (.if_icmp .eq 14, 3) := by decide +kernel
theorem dX9_joins_15 : decode cX9_joins 15 = .ok (.aload_n 0, 1) := by decide +kernel
theorem dX9_joins_16 : decode cX9_joins 16 = .ok (.getfield 19, 3) := by decide +kernel
theorem dX9_joins_19 : decode cX9_joins 19 = .ok (.iload_n 2, 1) := by decide +kernel
theorem dX9_joins_20 : decode cX9_joins 20 = .ok (.invokevirtual 183, 3) := by decide +kernel
theorem dX9_joins_23 : decode cX9_joins 23 = .ok (.ifCond .ne 6, 3) := by decide +kernel
theorem dX9_joins_26 : decode cX9_joins 26 = .ok (.bipush (-2), 2) := by decide +kernel
theorem dX9_joins_28 : decode cX9_joins 28 = .ok (.ireturn, 1) := by decide +kernel
theorem dX9_joins_29 : decode cX9_joins 29 = .ok (.aload_n 0, 1) := by decide +kernel
theorem dX9_joins_30 : decode cX9_joins 30 = .ok (.getfield 54, 3) := by decide +kernel
theorem dX9_joins_33 : decode cX9_joins 33 = .ok (.aload_n 0, 1) := by decide +kernel
theorem dX9_joins_34 : decode cX9_joins 34 = .ok (.getfield 37, 3) := by decide +kernel
theorem dX9_joins_37 : decode cX9_joins 37 = .ok (.iload_n 2, 1) := by decide +kernel
theorem dX9_joins_38 : decode cX9_joins 38 = .ok (.invokevirtual 201, 3) := by decide +kernel
theorem dX9_joins_41 : decode cX9_joins 41 = .ok (.aload_n 0, 1) := by decide +kernel
theorem dX9_joins_42 : decode cX9_joins 42 = .ok (.getfield 54, 3) := by decide +kernel
theorem dX9_joins_45 : decode cX9_joins 45 = .ok (.iload_n 3, 1) := by decide +kernel
theorem dX9_joins_46 : decode cX9_joins 46 = .ok (.invokevirtual 205, 3) := by decide +kernel
theorem dX9_joins_49 : decode cX9_joins 49 = .ok (.ireturn, 1) := by decide +kernel
theorem dX9_line_0 : decode cX9_line 0 = .ok (.aload_n 0, 1) := by decide +kernel
theorem dX9_line_1 : decode cX9_line 1 = .ok (.getfield 19, 3) := by decide +kernel
theorem dX9_line_4 : decode cX9_line 4 = .ok (.iload_n 1, 1) := by decide +kernel
theorem dX9_line_5 : decode cX9_line 5 = .ok (.invokevirtual 183, 3) := by decide +kernel
theorem dX9_line_8 : decode cX9_line 8 = .ok (.ifCond .ne 6, 3) := by decide +kernel
theorem dX9_line_11 : decode cX9_line 11 = .ok (.bipush (-2), 2) := by decide +kernel
theorem dX9_line_13 : decode cX9_line 13 = .ok (.ireturn, 1) := by decide +kernel
theorem dX9_line_14 : decode cX9_line 14 = .ok (.aload_n 0, 1) := by decide +kernel
theorem dX9_line_15 : decode cX9_line 15 = .ok (.getfield 54, 3) := by decide +kernel
theorem dX9_line_18 : decode cX9_line 18 = .ok (.aload_n 0, 1) := by decide +kernel
theorem dX9_line_19 : decode cX9_line 19 = .ok (.getfield 37, 3) := by decide +kernel
theorem dX9_line_22 : decode cX9_line 22 = .ok (.iload_n 1, 1) := by decide +kernel
theorem dX9_line_23 : decode cX9_line 23 = .ok (.invokevirtual 201, 3) := by decide +kernel
theorem dX9_line_26 : decode cX9_line 26 = .ok (.aload_n 0, 1) := by decide +kernel
theorem dX9_line_27 : decode cX9_line 27 = .ok (.getfield 54, 3) := by decide +kernel
theorem dX9_line_30 : decode cX9_line 30 = .ok (.invokevirtual 244, 3) := by decide +kernel
theorem dX9_line_33 : decode cX9_line 33 = .ok (.ireturn, 1) := by decide +kernel
theorem dX9_loop_0 : decode cX9_loop 0 = .ok (.aload_n 0, 1) := by decide +kernel
theorem dX9_loop_1 : decode cX9_loop 1 = .ok (.getfield 19, 3) := by decide +kernel
theorem dX9_loop_4 : decode cX9_loop 4 = .ok (.iload_n 1, 1) := by decide +kernel
theorem dX9_loop_5 : decode cX9_loop 5 = .ok (.i2l, 1) := by decide +kernel
theorem dX9_loop_6 : decode cX9_loop 6 = .ok (.invokevirtual 128, 3) := by decide +kernel
theorem dX9_loop_9 : decode cX9_loop 9 = .ok (.ifCond .ne 6, 3) := by decide +kernel
theorem dX9_loop_12 : decode cX9_loop 12 = .ok (.bipush (-2), 2) := by decide +kernel
theorem dX9_loop_14 : decode cX9_loop 14 = .ok (.ireturn, 1) := by decide +kernel
theorem dX9_loop_15 : decode cX9_loop 15 = .ok (.aload_n 0, 1) := by decide +kernel
theorem dX9_loop_16 : decode cX9_loop 16 = .ok (.getfield 37, 3) := by decide +kernel
theorem dX9_loop_19 : decode cX9_loop 19 = .ok (.iload_n 1, 1) := by decide +kernel
theorem dX9_loop_20 : decode cX9_loop 20 = .ok (.iconst 0, 1) := by decide +kernel
theorem dX9_loop_21 : decode cX9_loop 21 = .ok (.invokevirtual 157, 3) := by decide +kernel
theorem dX9_loop_24 : decode cX9_loop 24 = .ok (.istore_n 2, 1) := by decide +kernel
theorem dX9_loop_25 : decode cX9_loop 25 = .ok (.iconst 1, 1) := by decide +kernel
theorem dX9_loop_26 : decode cX9_loop 26 = .ok (.istore_n 3, 1) := by decide +kernel
theorem dX9_loop_27 : decode cX9_loop 27 = .ok (.iload_n 3, 1) := by decide +kernel
theorem dX9_loop_28 : decode cX9_loop 28 = .ok (.aload_n 0, 1) := by decide +kernel
theorem dX9_loop_29 : decode cX9_loop 29 = .ok (.getfield 37, 3) := by decide +kernel
theorem dX9_loop_32 : decode cX9_loop 32 = .ok (.getfield 161, 3) := by decide +kernel
theorem dX9_loop_35 : decode cX9_loop 35 = .ok (.iload_n 1, 1) := by decide +kernel
theorem dX9_loop_36 : decode cX9_loop 36 = .ok (.iaload, 1) := by decide +kernel
theorem dX9_loop_37 : decode cX9_loop 37 = .ok (.if_icmp .gt 39, 3) := by decide +kernel
theorem dX9_loop_40 : decode cX9_loop 40 = .ok (.aload_n 0, 1) := by decide +kernel
theorem dX9_loop_41 : decode cX9_loop 41 = .ok (.getfield 37, 3) := by decide +kernel
theorem dX9_loop_44 : decode cX9_loop 44 = .ok (.iload_n 1, 1) := by decide +kernel
theorem dX9_loop_45 : decode cX9_loop 45 = .ok (.iload_n 3, 1) := by decide +kernel
theorem dX9_loop_46 : decode cX9_loop 46 = .ok (.invokevirtual 157, 3) := by decide +kernel
theorem dX9_loop_49 : decode cX9_loop 49 = .ok (.iload_n 2, 1) := by decide +kernel
theorem dX9_loop_50 : decode cX9_loop 50 = .ok (.if_icmp .ne 20, 3) := by decide +kernel
theorem dX9_loop_53 : decode cX9_loop 53 = .ok (.aload_n 0, 1) := by decide +kernel
theorem dX9_loop_54 : decode cX9_loop 54 = .ok (.getfield 37, 3) := by decide +kernel
theorem dX9_loop_57 : decode cX9_loop 57 = .ok (.iload_n 1, 1) := by decide +kernel
theorem dX9_loop_58 : decode cX9_loop 58 = .ok (.iload_n 3, 1) := by decide +kernel
theorem dX9_loop_59 : decode cX9_loop 59 = .ok (.iconst 1, 1) := by decide +kernel
theorem dX9_loop_60 : decode cX9_loop 60 = .ok (.isub, 1) := by decide +kernel
theorem dX9_loop_61 : decode cX9_loop 61 = .ok (.invokevirtual 157, 3) := by decide +kernel
theorem dX9_loop_64 : decode cX9_loop 64 = .ok (.iload_n 2, 1) := by decide +kernel
theorem dX9_loop_65 : decode cX9_loop 65 = .ok (.if_icmp .eq 5, 3) := by decide +kernel
theorem dX9_loop_68 : decode cX9_loop 68 = .ok (.iload_n 3, 1) := by decide +kernel
theorem dX9_loop_69 : decode cX9_loop 69 = .ok (.ireturn, 1) := by decide +kernel
theorem dX9_loop_70 : decode cX9_loop 70 = .ok (.iinc 3 1, 3) := by decide +kernel
theorem dX9_loop_73 : decode cX9_loop 73 = .ok (.goto (-46), 3) := by decide +kernel
theorem dX9_loop_76 : decode cX9_loop 76 = .ok (.iconst (-1), 1) := by decide +kernel
theorem dX9_loop_77 : decode cX9_loop 77 = .ok (.ireturn, 1) := by decide +kernel
theorem dX9_missing_0 : decode cX9_missing 0 = .ok (.aload_n 0, 1) := by decide +kernel
theorem dX9_missing_1 : decode cX9_missing 1 = .ok (.getfield 19, 3) := by decide +kernel
theorem dX9_missing_4 : decode cX9_missing 4 = .ok (.iload_n 1, 1) := by decide +kernel
theorem dX9_missing_5 : decode cX9_missing 5 = .ok (.invokevirtual 183, 3) := by decide +kernel
theorem dX9_missing_8 : decode cX9_missing 8 = .ok (.ifCond .ne 6, 3) := by decide +kernel
theorem dX9_missing_11 : decode cX9_missing 11 = .ok (.bipush (-2), 2) := by decide +kernel
theorem dX9_missing_13 : decode cX9_missing 13 = .ok (.ireturn, 1) := by decide +kernel
theorem dX9_missing_14 : decode cX9_missing 14 = .ok (.aload_n 0, 1) := by decide +kernel
theorem dX9_missing_15 : decode cX9_missing 15 = .ok (.getfield 54, 3) := by decide +kernel
theorem dX9_missing_18 : decode cX9_missing 18 = .ok (.aload_n 0, 1) := by decide +kernel
theorem dX9_missing_19 : decode cX9_missing 19 = .ok (.getfield 37, 3) := by decide +kernel
theorem dX9_missing_22 : decode cX9_missing 22 = .ok (.iload_n 1, 1) := by decide +kernel
theorem dX9_missing_23 : decode cX9_missing 23 = .ok (.invokevirtual 201, 3) := by decide +kernel
theorem dX9_missing_26 : decode cX9_missing 26 = .ok (.aload_n 0, 1) := by decide +kernel
theorem dX9_missing_27 : decode cX9_missing 27 = .ok (.getfield 54, 3) := by decide +kernel
theorem dX9_missing_30 : decode cX9_missing 30 = .ok (.invokevirtual 211, 3) := by decide +kernel
theorem dX9_missing_33 : decode cX9_missing 33 = .ok (.istore_n 2, 1) := by decide +kernel
theorem dX9_missing_34 : decode cX9_missing 34 = .ok (.aload_n 0, 1) := by decide +kernel
theorem dX9_missing_35 : decode cX9_missing 35 = .ok (.getfield 54, 3) := by decide +kernel
theorem dX9_missing_38 : decode cX9_missing 38 = .ok (.aload_n 0, 1) := by decide +kernel
theorem dX9_missing_39 : decode cX9_missing 39 = .ok (.getfield 37, 3) := by decide +kernel
theorem dX9_missing_42 : decode cX9_missing 42 = .ok (.getfield 195, 3) := by decide +kernel
theorem dX9_missing_45 : decode cX9_missing 45 = .ok (.iload_n 1, 1) := by decide +kernel
theorem dX9_missing_46 : decode cX9_missing 46 = .ok (.laload, 1) := by decide +kernel
theorem dX9_missing_47 : decode cX9_missing 47 = .ok (.invokevirtual 215, 3) := by decide +kernel
theorem dX9_missing_50 : decode cX9_missing 50 = .ok (.aload_n 0, 1) := by decide +kernel
theorem dX9_missing_51 : decode cX9_missing 51 = .ok (.getfield 54, 3) := by decide +kernel
theorem dX9_missing_54 : decode cX9_missing 54 = .ok (.invokevirtual 211, 3) := by decide +kernel
theorem dX9_missing_57 : decode cX9_missing 57 = .ok (.iconst 1, 1) := by decide +kernel
theorem dX9_missing_58 : decode cX9_missing 58 = .ok (.if_icmp .le 5, 3) := by decide +kernel
theorem dX9_missing_61 : decode cX9_missing 61 = .ok (.iconst (-1), 1) := by decide +kernel
theorem dX9_missing_62 : decode cX9_missing 62 = .ok (.ireturn, 1) := by decide +kernel
theorem dX9_missing_63 : decode cX9_missing 63 = .ok (.iload_n 2, 1) := by decide +kernel
theorem dX9_missing_64 : decode cX9_missing 64 = .ok (.iconst 1, 1) := by decide +kernel
theorem dX9_missing_65 : decode cX9_missing 65 = .ok (.isub, 1) := by decide +kernel
theorem dX9_missing_66 : decode cX9_missing 66 = .ok (.iconst 0, 1) := by decide +kernel
theorem dX9_missing_67 : decode cX9_missing 67 = .ok (.invokestatic 219, 3) := by decide +kernel
theorem dX9_missing_70 : decode cX9_missing 70 = .ok (.ireturn, 1) := by decide +kernel
theorem dX9_moved_0 : decode cX9_moved 0 = .ok (.aload_n 0, 1) := by decide +kernel
theorem dX9_moved_1 : decode cX9_moved 1 = .ok (.getfield 19, 3) := by decide +kernel
theorem dX9_moved_4 : decode cX9_moved 4 = .ok (.iload_n 1, 1) := by decide +kernel
theorem dX9_moved_5 : decode cX9_moved 5 = .ok (.invokevirtual 247, 3) := by decide +kernel
theorem dX9_moved_8 : decode cX9_moved 8 = .ok (.ifCond .eq 15, 3) := by decide +kernel
theorem dX9_moved_11 : decode cX9_moved 11 = .ok (.aload_n 0, 1) := by decide +kernel
theorem dX9_moved_12 : decode cX9_moved 12 = .ok (.getfield 37, 3) := by decide +kernel
theorem dX9_moved_15 : decode cX9_moved 15 = .ok (.getfield 253, 3) := by decide +kernel
theorem dX9_moved_18 : decode cX9_moved 18 = .ok (.iload_n 1, 1) := by decide +kernel
theorem dX9_moved_19 : decode cX9_moved 19 = .ok (.iaload, 1) := by decide +kernel
theorem dX9_moved_20 : decode cX9_moved 20 = .ok (.goto 5, 3) := by decide +kernel
theorem dX9_moved_23 : decode cX9_moved 23 = .ok (.bipush (-2), 2) := by decide +kernel
theorem dX9_moved_25 : decode cX9_moved 25 = .ok (.ireturn, 1) := by decide +kernel
theorem dX9_moves_0 : decode cX9_moves 0 = .ok (.aload_n 0, 1) := by decide +kernel
theorem dX9_moves_1 : decode cX9_moves 1 = .ok (.getfield 19, 3) := by decide +kernel
theorem dX9_moves_4 : decode cX9_moves 4 = .ok (.iload_n 1, 1) := by decide +kernel
theorem dX9_moves_5 : decode cX9_moves 5 = .ok (.i2l, 1) := by decide +kernel
theorem dX9_moves_6 : decode cX9_moves 6 = .ok (.invokevirtual 128, 3) := by decide +kernel
theorem dX9_moves_9 : decode cX9_moves 9 = .ok (.ifCond .ne 6, 3) := by decide +kernel
theorem dX9_moves_12 : decode cX9_moves 12 = .ok (.bipush (-2), 2) := by decide +kernel
theorem dX9_moves_14 : decode cX9_moves 14 = .ok (.ireturn, 1) := by decide +kernel
theorem dX9_moves_15 : decode cX9_moves 15 = .ok (.aload_n 0, 1) := by decide +kernel
theorem dX9_moves_16 : decode cX9_moves 16 = .ok (.getfield 37, 3) := by decide +kernel
theorem dX9_moves_19 : decode cX9_moves 19 = .ok (.iload_n 1, 1) := by decide +kernel
theorem dX9_moves_20 : decode cX9_moves 20 = .ok (.invokevirtual 164, 3) := by decide +kernel
theorem dX9_moves_23 : decode cX9_moves 23 = .ok (.ifCond .eq 15, 3) := by decide +kernel
theorem dX9_moves_26 : decode cX9_moves 26 = .ok (.aload_n 0, 1) := by decide +kernel
theorem dX9_moves_27 : decode cX9_moves 27 = .ok (.getfield 37, 3) := by decide +kernel
theorem dX9_moves_30 : decode cX9_moves 30 = .ok (.getfield 256, 3) := by decide +kernel
theorem dX9_moves_33 : decode cX9_moves 33 = .ok (.iload_n 1, 1) := by decide +kernel
theorem dX9_moves_34 : decode cX9_moves 34 = .ok (.iaload, 1) := by decide +kernel
theorem dX9_moves_35 : decode cX9_moves 35 = .ok (.goto 4, 3) := by decide +kernel
theorem dX9_moves_38 : decode cX9_moves 38 = .ok (.iconst (-1), 1) := by decide +kernel
theorem dX9_moves_39 : decode cX9_moves 39 = .ok (.ireturn, 1) := by decide +kernel
theorem dX9_net_0 : decode cX9_net 0 = .ok (.aload_n 0, 1) := by decide +kernel
theorem dX9_net_1 : decode cX9_net 1 = .ok (.getfield 19, 3) := by decide +kernel
theorem dX9_net_4 : decode cX9_net 4 = .ok (.iload_n 1, 1) := by decide +kernel
theorem dX9_net_5 : decode cX9_net 5 = .ok (.i2l, 1) := by decide +kernel
theorem dX9_net_6 : decode cX9_net 6 = .ok (.invokevirtual 112, 3) := by decide +kernel
theorem dX9_net_9 : decode cX9_net 9 = .ok (.istore_n 3, 1) := by decide +kernel
theorem dX9_net_10 : decode cX9_net 10 = .ok (.iload_n 3, 1) := by decide +kernel
theorem dX9_net_11 : decode cX9_net 11 = .ok (.iconst (-1), 1) := by decide +kernel
theorem dX9_net_12 : decode cX9_net 12 = .ok (.if_icmp .eq 14, 3) := by decide +kernel
theorem dX9_net_15 : decode cX9_net 15 = .ok (.aload_n 0, 1) := by decide +kernel
theorem dX9_net_16 : decode cX9_net 16 = .ok (.getfield 19, 3) := by decide +kernel
theorem dX9_net_19 : decode cX9_net 19 = .ok (.iload_n 2, 1) := by decide +kernel
theorem dX9_net_20 : decode cX9_net 20 = .ok (.invokevirtual 183, 3) := by decide +kernel
theorem dX9_net_23 : decode cX9_net 23 = .ok (.ifCond .ne 6, 3) := by decide +kernel
theorem dX9_net_26 : decode cX9_net 26 = .ok (.bipush (-2), 2) := by decide +kernel
theorem dX9_net_28 : decode cX9_net 28 = .ok (.ireturn, 1) := by decide +kernel
theorem dX9_net_29 : decode cX9_net 29 = .ok (.aload_n 0, 1) := by decide +kernel
theorem dX9_net_30 : decode cX9_net 30 = .ok (.getfield 54, 3) := by decide +kernel
theorem dX9_net_33 : decode cX9_net 33 = .ok (.aload_n 0, 1) := by decide +kernel
theorem dX9_net_34 : decode cX9_net 34 = .ok (.getfield 37, 3) := by decide +kernel
theorem dX9_net_37 : decode cX9_net 37 = .ok (.iload_n 2, 1) := by decide +kernel
theorem dX9_net_38 : decode cX9_net 38 = .ok (.invokevirtual 201, 3) := by decide +kernel
theorem dX9_net_41 : decode cX9_net 41 = .ok (.aload_n 0, 1) := by decide +kernel
theorem dX9_net_42 : decode cX9_net 42 = .ok (.getfield 54, 3) := by decide +kernel
theorem dX9_net_45 : decode cX9_net 45 = .ok (.iload_n 3, 1) := by decide +kernel
theorem dX9_net_46 : decode cX9_net 46 = .ok (.invokevirtual 227, 3) := by decide +kernel
theorem dX9_net_49 : decode cX9_net 49 = .ok (.invokestatic 175, 3) := by decide +kernel
theorem dX9_net_52 : decode cX9_net 52 = .ok (.ireturn, 1) := by decide +kernel
theorem dX9_nets_0 : decode cX9_nets 0 = .ok (.aload_n 0, 1) := by decide +kernel
theorem dX9_nets_1 : decode cX9_nets 1 = .ok (.getfield 19, 3) := by decide +kernel
theorem dX9_nets_4 : decode cX9_nets 4 = .ok (.iload_n 1, 1) := by decide +kernel
theorem dX9_nets_5 : decode cX9_nets 5 = .ok (.invokevirtual 183, 3) := by decide +kernel
theorem dX9_nets_8 : decode cX9_nets 8 = .ok (.ifCond .ne 6, 3) := by decide +kernel
theorem dX9_nets_11 : decode cX9_nets 11 = .ok (.bipush (-2), 2) := by decide +kernel
theorem dX9_nets_13 : decode cX9_nets 13 = .ok (.ireturn, 1) := by decide +kernel
theorem dX9_nets_14 : decode cX9_nets 14 = .ok (.aload_n 0, 1) := by decide +kernel
theorem dX9_nets_15 : decode cX9_nets 15 = .ok (.getfield 54, 3) := by decide +kernel
theorem dX9_nets_18 : decode cX9_nets 18 = .ok (.aload_n 0, 1) := by decide +kernel
theorem dX9_nets_19 : decode cX9_nets 19 = .ok (.getfield 37, 3) := by decide +kernel
theorem dX9_nets_22 : decode cX9_nets 22 = .ok (.iload_n 1, 1) := by decide +kernel
theorem dX9_nets_23 : decode cX9_nets 23 = .ok (.invokevirtual 201, 3) := by decide +kernel
theorem dX9_nets_26 : decode cX9_nets 26 = .ok (.aload_n 0, 1) := by decide +kernel
theorem dX9_nets_27 : decode cX9_nets 27 = .ok (.getfield 54, 3) := by decide +kernel
theorem dX9_nets_30 : decode cX9_nets 30 = .ok (.invokevirtual 211, 3) := by decide +kernel
theorem dX9_nets_33 : decode cX9_nets 33 = .ok (.ireturn, 1) := by decide +kernel
theorem dX9_pegs_0 : decode cX9_pegs 0 = .ok (.aload_n 0, 1) := by decide +kernel
theorem dX9_pegs_1 : decode cX9_pegs 1 = .ok (.getfield 19, 3) := by decide +kernel
theorem dX9_pegs_4 : decode cX9_pegs 4 = .ok (.iload_n 1, 1) := by decide +kernel
theorem dX9_pegs_5 : decode cX9_pegs 5 = .ok (.invokevirtual 183, 3) := by decide +kernel
theorem dX9_pegs_8 : decode cX9_pegs 8 = .ok (.ifCond .eq 14, 3) := by decide +kernel
theorem dX9_pegs_11 : decode cX9_pegs 11 = .ok (.aload_n 0, 1) := by decide +kernel
theorem dX9_pegs_12 : decode cX9_pegs 12 = .ok (.getfield 37, 3) := by decide +kernel
theorem dX9_pegs_15 : decode cX9_pegs 15 = .ok (.iload_n 1, 1) := by decide +kernel
theorem dX9_pegs_16 : decode cX9_pegs 16 = .ok (.invokevirtual 198, 3) := by decide +kernel
theorem dX9_pegs_19 : decode cX9_pegs 19 = .ok (.goto 5, 3) := by decide +kernel
theorem dX9_pegs_22 : decode cX9_pegs 22 = .ok (.bipush (-2), 2) := by decide +kernel
theorem dX9_pegs_24 : decode cX9_pegs 24 = .ok (.ireturn, 1) := by decide +kernel
theorem dX9_rings_0 : decode cX9_rings 0 = .ok (.aload_n 0, 1) := by decide +kernel
theorem dX9_rings_1 : decode cX9_rings 1 = .ok (.getfield 19, 3) := by decide +kernel
theorem dX9_rings_4 : decode cX9_rings 4 = .ok (.iload_n 1, 1) := by decide +kernel
theorem dX9_rings_5 : decode cX9_rings 5 = .ok (.invokevirtual 183, 3) := by decide +kernel
theorem dX9_rings_8 : decode cX9_rings 8 = .ok (.ifCond .ne 6, 3) := by decide +kernel
theorem dX9_rings_11 : decode cX9_rings 11 = .ok (.bipush (-2), 2) := by decide +kernel
theorem dX9_rings_13 : decode cX9_rings 13 = .ok (.ireturn, 1) := by decide +kernel
theorem dX9_rings_14 : decode cX9_rings 14 = .ok (.aload_n 0, 1) := by decide +kernel
theorem dX9_rings_15 : decode cX9_rings 15 = .ok (.getfield 54, 3) := by decide +kernel
theorem dX9_rings_18 : decode cX9_rings 18 = .ok (.aload_n 0, 1) := by decide +kernel
theorem dX9_rings_19 : decode cX9_rings 19 = .ok (.getfield 37, 3) := by decide +kernel
theorem dX9_rings_22 : decode cX9_rings 22 = .ok (.iload_n 1, 1) := by decide +kernel
theorem dX9_rings_23 : decode cX9_rings 23 = .ok (.invokevirtual 201, 3) := by decide +kernel
theorem dX9_rings_26 : decode cX9_rings 26 = .ok (.aload_n 0, 1) := by decide +kernel
theorem dX9_rings_27 : decode cX9_rings 27 = .ok (.getfield 37, 3) := by decide +kernel
theorem dX9_rings_30 : decode cX9_rings 30 = .ok (.iload_n 1, 1) := by decide +kernel
theorem dX9_rings_31 : decode cX9_rings 31 = .ok (.invokevirtual 198, 3) := by decide +kernel
theorem dX9_rings_34 : decode cX9_rings 34 = .ok (.aload_n 0, 1) := by decide +kernel
theorem dX9_rings_35 : decode cX9_rings 35 = .ok (.getfield 37, 3) := by decide +kernel
theorem dX9_rings_38 : decode cX9_rings 38 = .ok (.getfield 195, 3) := by decide +kernel
theorem dX9_rings_41 : decode cX9_rings 41 = .ok (.iload_n 1, 1) := by decide +kernel
theorem dX9_rings_42 : decode cX9_rings 42 = .ok (.laload, 1) := by decide +kernel
theorem dX9_rings_43 : decode cX9_rings 43 = .ok (.invokestatic 175, 3) := by decide +kernel
theorem dX9_rings_46 : decode cX9_rings 46 = .ok (.isub, 1) := by decide +kernel
theorem dX9_rings_47 : decode cX9_rings 47 = .ok (.aload_n 0, 1) := by decide +kernel
theorem dX9_rings_48 : decode cX9_rings 48 = .ok (.getfield 54, 3) := by decide +kernel
theorem dX9_rings_51 : decode cX9_rings 51 = .ok (.invokevirtual 211, 3) := by decide +kernel
theorem dX9_rings_54 : decode cX9_rings 54 = .ok (.iadd, 1) := by decide +kernel
theorem dX9_rings_55 : decode cX9_rings 55 = .ok (.ireturn, 1) := by decide +kernel
theorem dX9_road_0 : decode cX9_road 0 = .ok (.aload_n 0, 1) := by decide +kernel
theorem dX9_road_1 : decode cX9_road 1 = .ok (.getfield 19, 3) := by decide +kernel
theorem dX9_road_4 : decode cX9_road 4 = .ok (.iload_n 1, 1) := by decide +kernel
theorem dX9_road_5 : decode cX9_road 5 = .ok (.i2l, 1) := by decide +kernel
theorem dX9_road_6 : decode cX9_road 6 = .ok (.invokevirtual 112, 3) := by decide +kernel
theorem dX9_road_9 : decode cX9_road 9 = .ok (.istore_n 3, 1) := by decide +kernel
theorem dX9_road_10 : decode cX9_road 10 = .ok (.iload_n 3, 1) := by decide +kernel
theorem dX9_road_11 : decode cX9_road 11 = .ok (.iconst (-1), 1) := by decide +kernel
theorem dX9_road_12 : decode cX9_road 12 = .ok (.if_icmp .eq 14, 3) := by decide +kernel
theorem dX9_road_15 : decode cX9_road 15 = .ok (.aload_n 0, 1) := by decide +kernel
theorem dX9_road_16 : decode cX9_road 16 = .ok (.getfield 19, 3) := by decide +kernel
theorem dX9_road_19 : decode cX9_road 19 = .ok (.iload_n 2, 1) := by decide +kernel
theorem dX9_road_20 : decode cX9_road 20 = .ok (.invokevirtual 183, 3) := by decide +kernel
theorem dX9_road_23 : decode cX9_road 23 = .ok (.ifCond .ne 6, 3) := by decide +kernel
theorem dX9_road_26 : decode cX9_road 26 = .ok (.bipush (-2), 2) := by decide +kernel
theorem dX9_road_28 : decode cX9_road 28 = .ok (.ireturn, 1) := by decide +kernel
theorem dX9_road_29 : decode cX9_road 29 = .ok (.aload_n 0, 1) := by decide +kernel
theorem dX9_road_30 : decode cX9_road 30 = .ok (.getfield 37, 3) := by decide +kernel
theorem dX9_road_33 : decode cX9_road 33 = .ok (.getfield 195, 3) := by decide +kernel
theorem dX9_road_36 : decode cX9_road 36 = .ok (.iload_n 2, 1) := by decide +kernel
theorem dX9_road_37 : decode cX9_road 37 = .ok (.laload, 1) := by decide +kernel
theorem dX9_road_38 : decode cX9_road 38 = .ok (.iload_n 3, 1) := by decide +kernel
theorem dX9_road_39 : decode cX9_road 39 = .ok (.invokestatic 120, 3) := by decide +kernel
theorem dX9_road_42 : decode cX9_road 42 = .ok (.invokestatic 124, 3) := by decide +kernel
theorem dX9_road_45 : decode cX9_road 45 = .ok (.ireturn, 1) := by decide +kernel
theorem dX9_roads_0 : decode cX9_roads 0 = .ok (.aload_n 0, 1) := by decide +kernel
theorem dX9_roads_1 : decode cX9_roads 1 = .ok (.getfield 19, 3) := by decide +kernel
theorem dX9_roads_4 : decode cX9_roads 4 = .ok (.iload_n 1, 1) := by decide +kernel
theorem dX9_roads_5 : decode cX9_roads 5 = .ok (.invokevirtual 183, 3) := by decide +kernel
theorem dX9_roads_8 : decode cX9_roads 8 = .ok (.ifCond .eq 18, 3) := by decide +kernel
theorem dX9_roads_11 : decode cX9_roads 11 = .ok (.aload_n 0, 1) := by decide +kernel
theorem dX9_roads_12 : decode cX9_roads 12 = .ok (.getfield 37, 3) := by decide +kernel
theorem dX9_roads_15 : decode cX9_roads 15 = .ok (.getfield 195, 3) := by decide +kernel
theorem dX9_roads_18 : decode cX9_roads 18 = .ok (.iload_n 1, 1) := by decide +kernel
theorem dX9_roads_19 : decode cX9_roads 19 = .ok (.laload, 1) := by decide +kernel
theorem dX9_roads_20 : decode cX9_roads 20 = .ok (.invokestatic 175, 3) := by decide +kernel
theorem dX9_roads_23 : decode cX9_roads 23 = .ok (.goto 5, 3) := by decide +kernel
theorem dX9_roads_26 : decode cX9_roads 26 = .ok (.bipush (-2), 2) := by decide +kernel
theorem dX9_roads_28 : decode cX9_roads 28 = .ok (.ireturn, 1) := by decide +kernel
theorem dX9_served_0 : decode cX9_served 0 = .ok (.aload_n 0, 1) := by decide +kernel
theorem dX9_served_1 : decode cX9_served 1 = .ok (.getfield 19, 3) := by decide +kernel
theorem dX9_served_4 : decode cX9_served 4 = .ok (.iload_n 1, 1) := by decide +kernel
theorem dX9_served_5 : decode cX9_served 5 = .ok (.invokevirtual 183, 3) := by decide +kernel
theorem dX9_served_8 : decode cX9_served 8 = .ok (.ifCond .ne 6, 3) := by decide +kernel
theorem dX9_served_11 : decode cX9_served 11 = .ok (.bipush (-2), 2) := by decide +kernel
theorem dX9_served_13 : decode cX9_served 13 = .ok (.ireturn, 1) := by decide +kernel
theorem dX9_served_14 : decode cX9_served 14 = .ok (.iconst 0, 1) := by decide +kernel
theorem dX9_served_15 : decode cX9_served 15 = .ok (.istore_n 2, 1) := by decide +kernel
theorem dX9_served_16 : decode cX9_served 16 = .ok (.iconst 0, 1) := by decide +kernel
theorem dX9_served_17 : decode cX9_served 17 = .ok (.istore_n 3, 1) := by decide +kernel
theorem dX9_served_18 : decode cX9_served 18 = .ok (.iload_n 3, 1) := by decide +kernel
theorem dX9_served_19 : decode cX9_served 19 = .ok (.aload_n 0, 1) := by decide +kernel
theorem dX9_served_20 : decode cX9_served 20 = .ok (.getfield 19, 3) := by decide +kernel
theorem dX9_served_23 : decode cX9_served 23 = .ok (.getfield 259, 3) := by decide +kernel
theorem dX9_served_26 : decode cX9_served 26 = .ok (.if_icmp .ge 54, 3) := by decide +kernel
theorem dX9_served_29 : decode cX9_served 29 = .ok (.aload_n 0, 1) := by decide +kernel
theorem dX9_served_30 : decode cX9_served 30 = .ok (.getfield 37, 3) := by decide +kernel
theorem dX9_served_33 : decode cX9_served 33 = .ok (.getfield 250, 3) := by decide +kernel
theorem dX9_served_36 : decode cX9_served 36 = .ok (.iload_n 1, 1) := by decide +kernel
theorem dX9_served_37 : decode cX9_served 37 = .ok (.bipush 6, 2) := by decide +kernel
theorem dX9_served_39 : decode cX9_served 39 = .ok (.imul, 1) := by decide +kernel
theorem dX9_served_40 : decode cX9_served 40 = .ok (.iload_n 3, 1) := by decide +kernel
theorem dX9_served_41 : decode cX9_served 41 = .ok (.iadd, 1) := by decide +kernel
theorem dX9_served_42 : decode cX9_served 42 = .ok (.iaload, 1) := by decide +kernel
theorem dX9_served_43 : decode cX9_served 43 = .ok (.istore 4, 2) := by decide +kernel
theorem dX9_served_45 : decode cX9_served 45 = .ok (.iload 4, 2) := by decide +kernel
theorem dX9_served_47 : decode cX9_served 47 = .ok (.iconst (-1), 1) := by decide +kernel
theorem dX9_served_48 : decode cX9_served 48 = .ok (.if_icmp .eq 26, 3) := by decide +kernel
theorem dX9_served_51 : decode cX9_served 51 = .ok (.iload 4, 2) := by decide +kernel
theorem dX9_served_53 : decode cX9_served 53 = .ok (.invokestatic 262, 3) := by decide +kernel
theorem dX9_served_56 : decode cX9_served 56 = .ok (.aload_n 0, 1) := by decide +kernel
theorem dX9_served_57 : decode cX9_served 57 = .ok (.getfield 37, 3) := by decide +kernel
theorem dX9_served_60 : decode cX9_served 60 = .ok (.getfield 195, 3) := by decide +kernel
theorem dX9_served_63 : decode cX9_served 63 = .ok (.iload_n 1, 1) := by decide +kernel
theorem dX9_served_64 : decode cX9_served 64 = .ok (.laload, 1) := by decide +kernel
theorem dX9_served_65 : decode cX9_served 65 = .ok (.land, 1) := by decide +kernel
theorem dX9_served_66 : decode cX9_served 66 = .ok (.lconst 0, 1) := by decide +kernel
theorem dX9_served_67 : decode cX9_served 67 = .ok (.lcmp, 1) := by decide +kernel
theorem dX9_served_68 : decode cX9_served 68 = .ok (.ifCond .eq 6, 3) := by decide +kernel
theorem dX9_served_71 : decode cX9_served 71 = .ok (.iinc 2 1, 3) := by decide +kernel
theorem dX9_served_74 : decode cX9_served 74 = .ok (.iinc 3 1, 3) := by decide +kernel
theorem dX9_served_77 : decode cX9_served 77 = .ok (.goto (-59), 3) := by decide +kernel
theorem dX9_served_80 : decode cX9_served 80 = .ok (.iload_n 2, 1) := by decide +kernel
theorem dX9_served_81 : decode cX9_served 81 = .ok (.ireturn, 1) := by decide +kernel
theorem dX9_shared_0 : decode cX9_shared 0 = .ok (.aload_n 0, 1) := by decide +kernel
theorem dX9_shared_1 : decode cX9_shared 1 = .ok (.getfield 19, 3) := by decide +kernel
theorem dX9_shared_4 : decode cX9_shared 4 = .ok (.iload_n 1, 1) := by decide +kernel
theorem dX9_shared_5 : decode cX9_shared 5 = .ok (.i2l, 1) := by decide +kernel
theorem dX9_shared_6 : decode cX9_shared 6 = .ok (.invokevirtual 128, 3) := by decide +kernel
theorem dX9_shared_9 : decode cX9_shared 9 = .ok (.ifCond .eq 15, 3) := by decide +kernel
theorem dX9_shared_12 : decode cX9_shared 12 = .ok (.aload_n 0, 1) := by decide +kernel
theorem dX9_shared_13 : decode cX9_shared 13 = .ok (.getfield 19, 3) := by decide +kernel
theorem dX9_shared_16 : decode cX9_shared 16 = .ok (.iload_n 2, 1) := by decide +kernel
theorem dX9_shared_17 : decode cX9_shared 17 = .ok (.i2l, 1) := by decide +kernel
theorem dX9_shared_18 : decode cX9_shared 18 = .ok (.invokevirtual 128, 3) := by decide +kernel
theorem dX9_shared_21 : decode cX9_shared 21 = .ok (.ifCond .ne 6, 3) := by decide +kernel
theorem dX9_shared_24 : decode cX9_shared 24 = .ok (.bipush (-2), 2) := by decide +kernel
theorem dX9_shared_26 : decode cX9_shared 26 = .ok (.ireturn, 1) := by decide +kernel
theorem dX9_shared_27 : decode cX9_shared 27 = .ok (.aload_n 0, 1) := by decide +kernel
theorem dX9_shared_28 : decode cX9_shared 28 = .ok (.getfield 37, 3) := by decide +kernel
theorem dX9_shared_31 : decode cX9_shared 31 = .ok (.getfield 171, 3) := by decide +kernel
theorem dX9_shared_34 : decode cX9_shared 34 = .ok (.iload_n 1, 1) := by decide +kernel
theorem dX9_shared_35 : decode cX9_shared 35 = .ok (.laload, 1) := by decide +kernel
theorem dX9_shared_36 : decode cX9_shared 36 = .ok (.aload_n 0, 1) := by decide +kernel
theorem dX9_shared_37 : decode cX9_shared 37 = .ok (.getfield 37, 3) := by decide +kernel
theorem dX9_shared_40 : decode cX9_shared 40 = .ok (.getfield 171, 3) := by decide +kernel
theorem dX9_shared_43 : decode cX9_shared 43 = .ok (.iload_n 2, 1) := by decide +kernel
theorem dX9_shared_44 : decode cX9_shared 44 = .ok (.laload, 1) := by decide +kernel
theorem dX9_shared_45 : decode cX9_shared 45 = .ok (.land, 1) := by decide +kernel
theorem dX9_shared_46 : decode cX9_shared 46 = .ok (.invokestatic 175, 3) := by decide +kernel
theorem dX9_shared_49 : decode cX9_shared 49 = .ok (.ireturn, 1) := by decide +kernel
theorem dX9_stands_0 : decode cX9_stands 0 = .ok (.aload_n 0, 1) := by decide +kernel
theorem dX9_stands_1 : decode cX9_stands 1 = .ok (.getfield 19, 3) := by decide +kernel
theorem dX9_stands_4 : decode cX9_stands 4 = .ok (.iload_n 1, 1) := by decide +kernel
theorem dX9_stands_5 : decode cX9_stands 5 = .ok (.i2l, 1) := by decide +kernel
theorem dX9_stands_6 : decode cX9_stands 6 = .ok (.invokevirtual 128, 3) := by decide +kernel
theorem dX9_stands_9 : decode cX9_stands 9 = .ok (.ifCond .ne 6, 3) := by decide +kernel
theorem dX9_stands_12 : decode cX9_stands 12 = .ok (.bipush (-2), 2) := by decide +kernel
theorem dX9_stands_14 : decode cX9_stands 14 = .ok (.ireturn, 1) := by decide +kernel
theorem dX9_stands_15 : decode cX9_stands 15 = .ok (.aload_n 0, 1) := by decide +kernel
theorem dX9_stands_16 : decode cX9_stands 16 = .ok (.getfield 37, 3) := by decide +kernel
theorem dX9_stands_19 : decode cX9_stands 19 = .ok (.iload_n 1, 1) := by decide +kernel
theorem dX9_stands_20 : decode cX9_stands 20 = .ok (.invokevirtual 164, 3) := by decide +kernel
theorem dX9_stands_23 : decode cX9_stands 23 = .ok (.ifCond .eq 15, 3) := by decide +kernel
theorem dX9_stands_26 : decode cX9_stands 26 = .ok (.aload_n 0, 1) := by decide +kernel
theorem dX9_stands_27 : decode cX9_stands 27 = .ok (.getfield 37, 3) := by decide +kernel
theorem dX9_stands_30 : decode cX9_stands 30 = .ok (.getfield 168, 3) := by decide +kernel
theorem dX9_stands_33 : decode cX9_stands 33 = .ok (.iload_n 1, 1) := by decide +kernel
theorem dX9_stands_34 : decode cX9_stands 34 = .ok (.iaload, 1) := by decide +kernel
theorem dX9_stands_35 : decode cX9_stands 35 = .ok (.goto 4, 3) := by decide +kernel
theorem dX9_stands_38 : decode cX9_stands 38 = .ok (.iconst (-1), 1) := by decide +kernel
theorem dX9_stands_39 : decode cX9_stands 39 = .ok (.ireturn, 1) := by decide +kernel
theorem dX9_steps_0 : decode cX9_steps 0 = .ok (.aload_n 0, 1) := by decide +kernel
theorem dX9_steps_1 : decode cX9_steps 1 = .ok (.getfield 19, 3) := by decide +kernel
theorem dX9_steps_4 : decode cX9_steps 4 = .ok (.iload_n 1, 1) := by decide +kernel
theorem dX9_steps_5 : decode cX9_steps 5 = .ok (.i2l, 1) := by decide +kernel
theorem dX9_steps_6 : decode cX9_steps 6 = .ok (.invokevirtual 128, 3) := by decide +kernel
theorem dX9_steps_9 : decode cX9_steps 9 = .ok (.ifCond .eq 15, 3) := by decide +kernel
theorem dX9_steps_12 : decode cX9_steps 12 = .ok (.aload_n 0, 1) := by decide +kernel
theorem dX9_steps_13 : decode cX9_steps 13 = .ok (.getfield 37, 3) := by decide +kernel
theorem dX9_steps_16 : decode cX9_steps 16 = .ok (.getfield 161, 3) := by decide +kernel
theorem dX9_steps_19 : decode cX9_steps 19 = .ok (.iload_n 1, 1) := by decide +kernel
theorem dX9_steps_20 : decode cX9_steps 20 = .ok (.iaload, 1) := by decide +kernel
theorem dX9_steps_21 : decode cX9_steps 21 = .ok (.goto 5, 3) := by decide +kernel
theorem dX9_steps_24 : decode cX9_steps 24 = .ok (.bipush (-2), 2) := by decide +kernel
theorem dX9_steps_26 : decode cX9_steps 26 = .ok (.ireturn, 1) := by decide +kernel
theorem dX9_straight_0 : decode cX9_straight 0 = .ok (.aload_n 0, 1) := by decide +kernel
theorem dX9_straight_1 : decode cX9_straight 1 = .ok (.getfield 19, 3) := by decide +kernel
theorem dX9_straight_4 : decode cX9_straight 4 = .ok (.iload_n 1, 1) := by decide +kernel
theorem dX9_straight_5 : decode cX9_straight 5 = .ok (.i2l, 1) := by decide +kernel
theorem dX9_straight_6 : decode cX9_straight 6 = .ok (.invokevirtual 128, 3) := by decide +kernel
theorem dX9_straight_9 : decode cX9_straight 9 = .ok (.ifCond .ne 6, 3) := by decide +kernel
theorem dX9_straight_12 : decode cX9_straight 12 = .ok (.bipush (-2), 2) := by decide +kernel
theorem dX9_straight_14 : decode cX9_straight 14 = .ok (.ireturn, 1) := by decide +kernel
theorem dX9_straight_15 : decode cX9_straight 15 = .ok (.aload_n 0, 1) := by decide +kernel
theorem dX9_straight_16 : decode cX9_straight 16 = .ok (.getfield 37, 3) := by decide +kernel
theorem dX9_straight_19 : decode cX9_straight 19 = .ok (.iload_n 1, 1) := by decide +kernel
theorem dX9_straight_20 : decode cX9_straight 20 = .ok (.invokevirtual 164, 3) := by decide +kernel
theorem dX9_straight_23 : decode cX9_straight 23 = .ok (.ifCond .ne 5, 3) := by decide +kernel
theorem dX9_straight_26 : decode cX9_straight 26 = .ok (.iconst (-1), 1) := by decide +kernel
theorem dX9_straight_27 : decode cX9_straight 27 = .ok (.ireturn, 1) := by decide +kernel
theorem dX9_straight_28 : decode cX9_straight 28 = .ok (.aload_n 0, 1) := by decide +kernel
theorem dX9_straight_29 : decode cX9_straight 29 = .ok (.aload_n 0, 1) := by decide +kernel
theorem dX9_straight_30 : decode cX9_straight 30 = .ok (.getfield 37, 3) := by decide +kernel
theorem dX9_straight_33 : decode cX9_straight 33 = .ok (.iload_n 1, 1) := by decide +kernel
theorem dX9_straight_34 : decode cX9_straight 34 = .ok (.iconst 0, 1) := by decide +kernel
theorem dX9_straight_35 : decode cX9_straight 35 = .ok (.invokevirtual 157, 3) := by decide +kernel
theorem dX9_straight_38 : decode cX9_straight 38 = .ok (.aload_n 0, 1) := by decide +kernel
theorem dX9_straight_39 : decode cX9_straight 39 = .ok (.getfield 37, 3) := by decide +kernel
theorem dX9_straight_42 : decode cX9_straight 42 = .ok (.iload_n 1, 1) := by decide +kernel
theorem dX9_straight_43 : decode cX9_straight 43 = .ok (.aload_n 0, 1) := by decide +kernel
theorem dX9_straight_44 : decode cX9_straight 44 = .ok (.getfield 37, 3) := by decide +kernel
theorem dX9_straight_47 : decode cX9_straight 47 = .ok (.getfield 161, 3) := by decide +kernel
theorem dX9_straight_50 : decode cX9_straight 50 = .ok (.iload_n 1, 1) := by decide +kernel
theorem dX9_straight_51 : decode cX9_straight 51 = .ok (.iaload, 1) := by decide +kernel
theorem dX9_straight_52 : decode cX9_straight 52 = .ok (.invokevirtual 157, 3) := by decide +kernel
theorem dX9_straight_55 : decode cX9_straight 55 = .ok (.invokevirtual 192, 3) := by decide +kernel
theorem dX9_straight_58 : decode cX9_straight 58 = .ok (.istore_n 2, 1) := by decide +kernel
theorem dX9_straight_59 : decode cX9_straight 59 = .ok (.iload_n 2, 1) := by decide +kernel
theorem dX9_straight_60 : decode cX9_straight 60 = .ok (.iconst (-1), 1) := by decide +kernel
theorem dX9_straight_61 : decode cX9_straight 61 = .ok (.if_icmp .ne 8, 3) := by decide +kernel
theorem dX9_straight_64 : decode cX9_straight 64 = .ok (.bipush (-3), 2) := by decide +kernel
theorem dX9_straight_66 : decode cX9_straight 66 = .ok (.goto 4, 3) := by decide +kernel
theorem dX9_straight_69 : decode cX9_straight 69 = .ok (.iload_n 2, 1) := by decide +kernel
theorem dX9_straight_70 : decode cX9_straight 70 = .ok (.ireturn, 1) := by decide +kernel
theorem dX9_visits_0 : decode cX9_visits 0 = .ok (.aload_n 0, 1) := by decide +kernel
theorem dX9_visits_1 : decode cX9_visits 1 = .ok (.getfield 19, 3) := by decide +kernel
theorem dX9_visits_4 : decode cX9_visits 4 = .ok (.iload_n 2, 1) := by decide +kernel
theorem dX9_visits_5 : decode cX9_visits 5 = .ok (.i2l, 1) := by decide +kernel
theorem dX9_visits_6 : decode cX9_visits 6 = .ok (.invokevirtual 112, 3) := by decide +kernel
theorem dX9_visits_9 : decode cX9_visits 9 = .ok (.istore_n 3, 1) := by decide +kernel
theorem dX9_visits_10 : decode cX9_visits 10 = .ok (.aload_n 0, 1) := by decide +kernel
theorem dX9_visits_11 : decode cX9_visits 11 = .ok (.getfield 19, 3) := by decide +kernel
theorem dX9_visits_14 : decode cX9_visits 14 = .ok (.iload_n 1, 1) := by decide +kernel
theorem dX9_visits_15 : decode cX9_visits 15 = .ok (.i2l, 1) := by decide +kernel
theorem dX9_visits_16 : decode cX9_visits 16 = .ok (.invokevirtual 128, 3) := by decide +kernel
theorem dX9_visits_19 : decode cX9_visits 19 = .ok (.ifCond .eq 8, 3) := by decide +kernel
theorem dX9_visits_22 : decode cX9_visits 22 = .ok (.iload_n 3, 1) := by decide +kernel
theorem dX9_visits_23 : decode cX9_visits 23 = .ok (.iconst (-1), 1) := by decide +kernel
theorem dX9_visits_24 : decode cX9_visits 24 = .ok (.if_icmp .ne 6, 3) := by decide +kernel
theorem dX9_visits_27 : decode cX9_visits 27 = .ok (.bipush (-2), 2) := by decide +kernel
theorem dX9_visits_29 : decode cX9_visits 29 = .ok (.ireturn, 1) := by decide +kernel
theorem dX9_visits_30 : decode cX9_visits 30 = .ok (.aload_n 0, 1) := by decide +kernel
theorem dX9_visits_31 : decode cX9_visits 31 = .ok (.getfield 37, 3) := by decide +kernel
theorem dX9_visits_34 : decode cX9_visits 34 = .ok (.iload_n 1, 1) := by decide +kernel
theorem dX9_visits_35 : decode cX9_visits 35 = .ok (.iload_n 3, 1) := by decide +kernel
theorem dX9_visits_36 : decode cX9_visits 36 = .ok (.invokevirtual 180, 3) := by decide +kernel
theorem dX9_visits_39 : decode cX9_visits 39 = .ok (.ireturn, 1) := by decide +kernel
theorem dX9_walked_0 : decode cX9_walked 0 = .ok (.aload_n 0, 1) := by decide +kernel
theorem dX9_walked_1 : decode cX9_walked 1 = .ok (.getfield 19, 3) := by decide +kernel
theorem dX9_walked_4 : decode cX9_walked 4 = .ok (.iload_n 1, 1) := by decide +kernel
theorem dX9_walked_5 : decode cX9_walked 5 = .ok (.i2l, 1) := by decide +kernel
theorem dX9_walked_6 : decode cX9_walked 6 = .ok (.invokevirtual 112, 3) := by decide +kernel
theorem dX9_walked_9 : decode cX9_walked 9 = .ok (.istore_n 2, 1) := by decide +kernel
theorem dX9_walked_10 : decode cX9_walked 10 = .ok (.iload_n 2, 1) := by decide +kernel
theorem dX9_walked_11 : decode cX9_walked 11 = .ok (.iconst (-1), 1) := by decide +kernel
theorem dX9_walked_12 : decode cX9_walked 12 = .ok (.if_icmp .ne 8, 3) := by decide +kernel
theorem dX9_walked_15 : decode cX9_walked 15 = .ok (.bipush (-2), 2) := by decide +kernel
theorem dX9_walked_17 : decode cX9_walked 17 = .ok (.goto 8, 3) := by decide +kernel
theorem dX9_walked_20 : decode cX9_walked 20 = .ok (.aload_n 0, 1) := by decide +kernel
theorem dX9_walked_21 : decode cX9_walked 21 = .ok (.iload_n 2, 1) := by decide +kernel
theorem dX9_walked_22 : decode cX9_walked 22 = .ok (.invokevirtual 237, 3) := by decide +kernel
theorem dX9_walked_25 : decode cX9_walked 25 = .ok (.ireturn, 1) := by decide +kernel
theorem dX9_way_0 : decode cX9_way 0 = .ok (.aload_n 0, 1) := by decide +kernel
theorem dX9_way_1 : decode cX9_way 1 = .ok (.getfield 19, 3) := by decide +kernel
theorem dX9_way_4 : decode cX9_way 4 = .ok (.iload_n 1, 1) := by decide +kernel
theorem dX9_way_5 : decode cX9_way 5 = .ok (.i2l, 1) := by decide +kernel
theorem dX9_way_6 : decode cX9_way 6 = .ok (.invokevirtual 112, 3) := by decide +kernel
theorem dX9_way_9 : decode cX9_way 9 = .ok (.istore 4, 2) := by decide +kernel
theorem dX9_way_11 : decode cX9_way 11 = .ok (.aload_n 0, 1) := by decide +kernel
theorem dX9_way_12 : decode cX9_way 12 = .ok (.getfield 19, 3) := by decide +kernel
theorem dX9_way_15 : decode cX9_way 15 = .ok (.iload_n 2, 1) := by decide +kernel
theorem dX9_way_16 : decode cX9_way 16 = .ok (.i2l, 1) := by decide +kernel
theorem dX9_way_17 : decode cX9_way 17 = .ok (.invokevirtual 112, 3) := by decide +kernel
theorem dX9_way_20 : decode cX9_way 20 = .ok (.istore 5, 2) := by decide +kernel
theorem dX9_way_22 : decode cX9_way 22 = .ok (.iload 4, 2) := by decide +kernel
theorem dX9_way_24 : decode cX9_way 24 = .ok (.iconst (-1), 1) := by decide +kernel
theorem dX9_way_25 : decode cX9_way 25 = .ok (.if_icmp .eq 20, 3) := by decide +kernel
theorem dX9_way_28 : decode cX9_way 28 = .ok (.iload 5, 2) := by decide +kernel
theorem dX9_way_30 : decode cX9_way 30 = .ok (.iconst (-1), 1) := by decide +kernel
theorem dX9_way_31 : decode cX9_way 31 = .ok (.if_icmp .eq 14, 3) := by decide +kernel
theorem dX9_way_34 : decode cX9_way 34 = .ok (.aload_n 0, 1) := by decide +kernel
theorem dX9_way_35 : decode cX9_way 35 = .ok (.getfield 19, 3) := by decide +kernel
theorem dX9_way_38 : decode cX9_way 38 = .ok (.iload_n 3, 1) := by decide +kernel
theorem dX9_way_39 : decode cX9_way 39 = .ok (.invokevirtual 183, 3) := by decide +kernel
theorem dX9_way_42 : decode cX9_way 42 = .ok (.ifCond .ne 6, 3) := by decide +kernel
theorem dX9_way_45 : decode cX9_way 45 = .ok (.bipush (-2), 2) := by decide +kernel
theorem dX9_way_47 : decode cX9_way 47 = .ok (.ireturn, 1) := by decide +kernel
theorem dX9_way_48 : decode cX9_way 48 = .ok (.aload_n 0, 1) := by decide +kernel
theorem dX9_way_49 : decode cX9_way 49 = .ok (.getfield 54, 3) := by decide +kernel
theorem dX9_way_52 : decode cX9_way 52 = .ok (.aload_n 0, 1) := by decide +kernel
theorem dX9_way_53 : decode cX9_way 53 = .ok (.getfield 37, 3) := by decide +kernel
theorem dX9_way_56 : decode cX9_way 56 = .ok (.iload_n 3, 1) := by decide +kernel
theorem dX9_way_57 : decode cX9_way 57 = .ok (.invokevirtual 201, 3) := by decide +kernel
theorem dX9_way_60 : decode cX9_way 60 = .ok (.aload_n 0, 1) := by decide +kernel
theorem dX9_way_61 : decode cX9_way 61 = .ok (.getfield 54, 3) := by decide +kernel
theorem dX9_way_64 : decode cX9_way 64 = .ok (.iload 4, 2) := by decide +kernel
theorem dX9_way_66 : decode cX9_way 66 = .ok (.iload 5, 2) := by decide +kernel
theorem dX9_way_68 : decode cX9_way 68 = .ok (.invokevirtual 231, 3) := by decide +kernel
theorem dX9_way_71 : decode cX9_way 71 = .ok (.ireturn, 1) := by decide +kernel
theorem dX9_widow_0 : decode cX9_widow 0 = .ok (.aload_n 0, 1) := by decide +kernel
theorem dX9_widow_1 : decode cX9_widow 1 = .ok (.getfield 19, 3) := by decide +kernel
theorem dX9_widow_4 : decode cX9_widow 4 = .ok (.iload_n 1, 1) := by decide +kernel
theorem dX9_widow_5 : decode cX9_widow 5 = .ok (.i2l, 1) := by decide +kernel
theorem dX9_widow_6 : decode cX9_widow 6 = .ok (.invokevirtual 128, 3) := by decide +kernel
theorem dX9_widow_9 : decode cX9_widow 9 = .ok (.ifCond .ne 6, 3) := by decide +kernel
theorem dX9_widow_12 : decode cX9_widow 12 = .ok (.bipush (-2), 2) := by decide +kernel
theorem dX9_widow_14 : decode cX9_widow 14 = .ok (.ireturn, 1) := by decide +kernel
theorem dX9_widow_15 : decode cX9_widow 15 = .ok (.iload_n 2, 1) := by decide +kernel
theorem dX9_widow_16 : decode cX9_widow 16 = .ok (.tableswitch 89 0 4 #[36, 49, 59, 69, 79], 36) := by decide +kernel
theorem dX9_widow_52 : decode cX9_widow 52 = .ok (.aload_n 0, 1) := by decide +kernel
theorem dX9_widow_53 : decode cX9_widow 53 = .ok (.getfield 19, 3) := by decide +kernel
theorem dX9_widow_56 : decode cX9_widow 56 = .ok (.getfield 132, 3) := by decide +kernel
theorem dX9_widow_59 : decode cX9_widow 59 = .ok (.iload_n 1, 1) := by decide +kernel
theorem dX9_widow_60 : decode cX9_widow 60 = .ok (.iaload, 1) := by decide +kernel
theorem dX9_widow_61 : decode cX9_widow 61 = .ok (.invokestatic 135, 3) := by decide +kernel
theorem dX9_widow_64 : decode cX9_widow 64 = .ok (.ireturn, 1) := by decide +kernel
theorem dX9_widow_65 : decode cX9_widow 65 = .ok (.aload_n 0, 1) := by decide +kernel
theorem dX9_widow_66 : decode cX9_widow 66 = .ok (.getfield 19, 3) := by decide +kernel
theorem dX9_widow_69 : decode cX9_widow 69 = .ok (.getfield 139, 3) := by decide +kernel
theorem dX9_widow_72 : decode cX9_widow 72 = .ok (.iload_n 1, 1) := by decide +kernel
theorem dX9_widow_73 : decode cX9_widow 73 = .ok (.iaload, 1) := by decide +kernel
theorem dX9_widow_74 : decode cX9_widow 74 = .ok (.ireturn, 1) := by decide +kernel
theorem dX9_widow_75 : decode cX9_widow 75 = .ok (.aload_n 0, 1) := by decide +kernel
theorem dX9_widow_76 : decode cX9_widow 76 = .ok (.getfield 19, 3) := by decide +kernel
theorem dX9_widow_79 : decode cX9_widow 79 = .ok (.getfield 142, 3) := by decide +kernel
theorem dX9_widow_82 : decode cX9_widow 82 = .ok (.iload_n 1, 1) := by decide +kernel
theorem dX9_widow_83 : decode cX9_widow 83 = .ok (.iaload, 1) := by decide +kernel
theorem dX9_widow_84 : decode cX9_widow 84 = .ok (.ireturn, 1) := by decide +kernel
theorem dX9_widow_85 : decode cX9_widow 85 = .ok (.aload_n 0, 1) := by decide +kernel
theorem dX9_widow_86 : decode cX9_widow 86 = .ok (.getfield 19, 3) := by decide +kernel
theorem dX9_widow_89 : decode cX9_widow 89 = .ok (.getfield 145, 3) := by decide +kernel
theorem dX9_widow_92 : decode cX9_widow 92 = .ok (.iload_n 1, 1) := by decide +kernel
theorem dX9_widow_93 : decode cX9_widow 93 = .ok (.iaload, 1) := by decide +kernel
theorem dX9_widow_94 : decode cX9_widow 94 = .ok (.ireturn, 1) := by decide +kernel
theorem dX9_widow_95 : decode cX9_widow 95 = .ok (.aload_n 0, 1) := by decide +kernel
theorem dX9_widow_96 : decode cX9_widow 96 = .ok (.getfield 19, 3) := by decide +kernel
theorem dX9_widow_99 : decode cX9_widow 99 = .ok (.getfield 148, 3) := by decide +kernel
theorem dX9_widow_102 : decode cX9_widow 102 = .ok (.iload_n 1, 1) := by decide +kernel
theorem dX9_widow_103 : decode cX9_widow 103 = .ok (.iaload, 1) := by decide +kernel
theorem dX9_widow_104 : decode cX9_widow 104 = .ok (.ireturn, 1) := by decide +kernel
theorem dX9_widow_105 : decode cX9_widow 105 = .ok (.bipush (-2), 2) := by decide +kernel
theorem dX9_widow_107 : decode cX9_widow 107 = .ok (.ireturn, 1) := by decide +kernel
set_option maxHeartbeats 4000000 in
set_option maxRecDepth 100000 in
theorem f_X9_feed (l : Launch) (G : va_G) (cI cJ cZ cB cQ : ClassId) (sz : Nat) (h0 : Nat) (p0 : Int32) (p1 : Int32) (p2 : Int32) (p3 : Int32) (p4 : Int32) (b : Nat → Nat) (br : Nat → Nat) (d_fault : Int32) (d_place : Int32) (d_kind : Int32) (d_start : Int32) (d_stop : Int32) (bp : Nat → Nat) (a_length : Int32) (a_f0 : Nat → Int32) (hl_a_length : 0 ≤ a_length.toInt) (hh_a_length : a_length.toInt ≤ 900) : CI l yX9_feed (wl_ yX9_feed cX9_feed 6 (some .int)) ({ frames := 1, cells := 0, slots := 0, locals := 22 } : Room) G (TY cI cJ cZ cB cQ) [.ref h0, .int p0, .int p1, .int p2, .int p3, .int p4] [(h0, oX9 b), (b 0, oX4 br d_fault d_place d_kind d_start d_stop), (br 2, oX8 bp a_length), (bp 0, .inl (cB, 900, .inl a_f0))] sz (fun (r : Int32) (u : Int32 × (Nat → Int32)) => 0 ≤ u.1.toInt ∧ u.1.toInt ≤ 900) (fun u : Int32 × (Nat → Int32) => [(h0, oX9 b), (b 0, oX4 br d_fault d_place d_kind d_start d_stop), (br 2, oX8 bp u.1), (bp 0, .inl (cB, 900, .inl u.2))]) 0 0 := by
  refine CI.go (cc := cX9_feed) (maxL := 6) (ret := (some .int)) (by decide) rfl (Nat.le_of_ble_eq_true rfl) ?_
  intro p e s m below meth c A ls Q hBd hret
  obtain ⟨hx, hb, hr, hml, hts, hown, hlk, hnm, hP, hK, hD, hA, hZ, hl⟩ := hBd
  have hown : s.vm.findClass RX9 = some m.cls := hown
  have hl : lv_has ls 6 [(0, .ref h0), (1, .int p0), (2, .int p1), (3, .int p2), (4, .int p3), (5, .int p4)] := hl
  have hS : va_S A s.heap s.heap [] := va_S.rf
  refine lv_aload_n hx hb dX9_feed_0 rfl (lv_at hl 0 rfl) ?_
  refine va_get (D := G) (ci := 9) (v := .ref (b 0)) (C := RX9) (T := TX9) (N := 11) hx hb hts iG_X9 hown hK hP 0 rfl rfl 0 (by decide) (hts _ w_351) (fun _ h9 => h9) rfl dX9_feed_1 ?_
  refine va_getN (D := G) (ci := 4) (v := .ref (br 2)) (C := RX4) (T := TX4) (N := 7) hx hb hts iG_X4 hown hK hP 1 rfl rfl 2 (by decide) (nz_use hZ nw_168 rfl) (fun _ h9 => h9) rfl dX9_feed_4 ?_
  refine va_getN (D := G) (ci := 8) (v := .int a_length) (C := RX8) (T := TX8) (N := 2) hx hb hts iG_X8 hown hK hP 2 rfl rfl 1 (by decide) (nz_use hZ nw_41 rfl) (fun _ h9 => h9) rfl dX9_feed_7 ?_
  refine lv_sipush (v := 880) hx hb dX9_feed_10 (by decide) ?_
  refine lv_icmp_le (tgt := 18) hx hb dX9_feed_13 (by decide) (fun c1 => ?_) (fun c1 => ?_)
  · have c1 := i_le rfl ki_880 c1
    refine lv_aload_n hx hb dX9_feed_18 rfl (lv_at hl 0 rfl) ?_
    refine va_get (D := G) (ci := 9) (v := .ref (b 0)) (C := RX9) (T := TX9) (N := 11) hx hb hts iG_X9 hown hK hP 0 rfl rfl 0 (by decide) (hts _ w_351) (fun _ h9 => h9) rfl dX9_feed_19 ?_
    refine va_getN (D := G) (ci := 4) (v := .ref (br 2)) (C := RX4) (T := TX4) (N := 7) hx hb hts iG_X4 hown hK hP 1 rfl rfl 2 (by decide) (nz_use hZ nw_168 rfl) (fun _ h9 => h9) rfl dX9_feed_22 ?_
    refine lv_iload_n hx hb dX9_feed_25 rfl (lv_at hl 1 rfl) ?_
    refine k_v (wc := [(br 2, oX8 bp a_length), (bp 0, .inl (cB, 900, .inl a_f0))]) (wr := [(h0, oX9 b), (b 0, oX4 br d_fault d_place d_kind d_start d_stop)]) hP hD hS hA [2, 3] [0, 1] rfl rfl rfl (by decide) (va_runVN (As := [.int p0]) (rest := []) ⟨hx, hb, hml, hown, hts⟩ (f_X8_put l G cI cJ cZ cB cQ _ (br 2) p0 bp a_length a_f0 hl_a_length (by omega)) ⟨va_cnB (host := "WidowRoads") 1 hts (gW w_392) rfl rfl rfl (nz_nw hZ nw_389 rfl) (hts _ w_3) hd_X8_put ⟨Nat.le_of_ble_eq_true rfl, Nat.le_of_ble_eq_true rfl⟩, (hts _ w_391), (hts _ wp_0)⟩ (mV hK hZ hP hD [2, 3] rfl rfl [.int p0] 2 8 rfl rfl) rfl rfl hl.1 rfl (lv_room (Nat.le_of_ble_eq_true rfl)) dX9_feed_26 ⟨Nat.le_of_ble_eq_true rfl, Nat.le_of_ble_eq_true rfl⟩) (fun u3 H locs hw4 hP hD hS => ?_)
    obtain ⟨o_lengtho5, o_f0o6⟩ := u3
    try dsimp only at hw4
    have hP : va_P G vwCl [(h0, oX9 b), (b 0, oX4 br d_fault d_place d_kind d_start d_stop), (br 2, oX8 bp o_lengtho5), (bp 0, .inl (cB, 900, .inl o_f0o6))] H := hP
    have hD : va_D A [(h0, oX9 b), (b 0, oX4 br d_fault d_place d_kind d_start d_stop), (br 2, oX8 bp o_lengtho5), (bp 0, .inl (cB, 900, .inl o_f0o6))] := hD
    obtain ⟨w7, w8⟩ : 0 ≤ o_lengtho5.toInt ∧ o_lengtho5.toInt ≤ 900 := hw4
    refine lv_aload_n hx hb dX9_feed_29 rfl (lv_at hl 0 rfl) ?_
    refine va_get (D := G) (ci := 9) (v := .ref (b 0)) (C := RX9) (T := TX9) (N := 11) hx hb hts iG_X9 hown hK hP 0 rfl rfl 0 (by decide) (hts _ w_351) (fun _ h9 => h9) rfl dX9_feed_30 ?_
    refine va_getN (D := G) (ci := 4) (v := .ref (br 2)) (C := RX4) (T := TX4) (N := 7) hx hb hts iG_X4 hown hK hP 1 rfl rfl 2 (by decide) (nz_use hZ nw_168 rfl) (fun _ h9 => h9) rfl dX9_feed_33 ?_
    refine lv_iload_n hx hb dX9_feed_36 rfl (lv_at hl 2 rfl) ?_
    refine k_v (wc := [(br 2, oX8 bp o_lengtho5), (bp 0, .inl (cB, 900, .inl o_f0o6))]) (wr := [(h0, oX9 b), (b 0, oX4 br d_fault d_place d_kind d_start d_stop)]) hP hD hS hA [2, 3] [0, 1] rfl rfl rfl (by decide) (va_runVN (As := [.int p1]) (rest := []) ⟨hx, hb, hml, hown, hts⟩ (f_X8_put l G cI cJ cZ cB cQ _ (br 2) p1 bp o_lengtho5 o_f0o6 w7 w8) ⟨va_cnB (host := "WidowRoads") 1 hts (gW w_392) rfl rfl rfl (nz_nw hZ nw_389 rfl) (hts _ w_3) hd_X8_put ⟨Nat.le_of_ble_eq_true rfl, Nat.le_of_ble_eq_true rfl⟩, (hts _ w_391), (hts _ wp_0)⟩ (mV hK hZ hP hD [2, 3] rfl rfl [.int p1] 2 8 rfl rfl) rfl rfl hl.1 rfl (lv_room (Nat.le_of_ble_eq_true rfl)) dX9_feed_37 ⟨Nat.le_of_ble_eq_true rfl, Nat.le_of_ble_eq_true rfl⟩) (fun u10 H locs hw11 hP hD hS => ?_)
    obtain ⟨o_lengtho12, o_f0o13⟩ := u10
    try dsimp only at hw11
    have hP : va_P G vwCl [(h0, oX9 b), (b 0, oX4 br d_fault d_place d_kind d_start d_stop), (br 2, oX8 bp o_lengtho12), (bp 0, .inl (cB, 900, .inl o_f0o13))] H := hP
    have hD : va_D A [(h0, oX9 b), (b 0, oX4 br d_fault d_place d_kind d_start d_stop), (br 2, oX8 bp o_lengtho12), (bp 0, .inl (cB, 900, .inl o_f0o13))] := hD
    obtain ⟨w14, w15⟩ : 0 ≤ o_lengtho12.toInt ∧ o_lengtho12.toInt ≤ 900 := hw11
    refine lv_aload_n hx hb dX9_feed_40 rfl (lv_at hl 0 rfl) ?_
    refine va_get (D := G) (ci := 9) (v := .ref (b 0)) (C := RX9) (T := TX9) (N := 11) hx hb hts iG_X9 hown hK hP 0 rfl rfl 0 (by decide) (hts _ w_351) (fun _ h9 => h9) rfl dX9_feed_41 ?_
    refine va_getN (D := G) (ci := 4) (v := .ref (br 2)) (C := RX4) (T := TX4) (N := 7) hx hb hts iG_X4 hown hK hP 1 rfl rfl 2 (by decide) (nz_use hZ nw_168 rfl) (fun _ h9 => h9) rfl dX9_feed_44 ?_
    refine lv_iload_n hx hb dX9_feed_47 rfl (lv_at hl 3 rfl) ?_
    refine k_v (wc := [(br 2, oX8 bp o_lengtho12), (bp 0, .inl (cB, 900, .inl o_f0o13))]) (wr := [(h0, oX9 b), (b 0, oX4 br d_fault d_place d_kind d_start d_stop)]) hP hD hS hA [2, 3] [0, 1] rfl rfl rfl (by decide) (va_runVN (As := [.int p2]) (rest := []) ⟨hx, hb, hml, hown, hts⟩ (f_X8_put l G cI cJ cZ cB cQ _ (br 2) p2 bp o_lengtho12 o_f0o13 w14 w15) ⟨va_cnB (host := "WidowRoads") 1 hts (gW w_392) rfl rfl rfl (nz_nw hZ nw_389 rfl) (hts _ w_3) hd_X8_put ⟨Nat.le_of_ble_eq_true rfl, Nat.le_of_ble_eq_true rfl⟩, (hts _ w_391), (hts _ wp_0)⟩ (mV hK hZ hP hD [2, 3] rfl rfl [.int p2] 2 8 rfl rfl) rfl rfl hl.1 rfl (lv_room (Nat.le_of_ble_eq_true rfl)) dX9_feed_48 ⟨Nat.le_of_ble_eq_true rfl, Nat.le_of_ble_eq_true rfl⟩) (fun u17 H locs hw18 hP hD hS => ?_)
    obtain ⟨o_lengtho19, o_f0o20⟩ := u17
    try dsimp only at hw18
    have hP : va_P G vwCl [(h0, oX9 b), (b 0, oX4 br d_fault d_place d_kind d_start d_stop), (br 2, oX8 bp o_lengtho19), (bp 0, .inl (cB, 900, .inl o_f0o20))] H := hP
    have hD : va_D A [(h0, oX9 b), (b 0, oX4 br d_fault d_place d_kind d_start d_stop), (br 2, oX8 bp o_lengtho19), (bp 0, .inl (cB, 900, .inl o_f0o20))] := hD
    obtain ⟨w21, w22⟩ : 0 ≤ o_lengtho19.toInt ∧ o_lengtho19.toInt ≤ 900 := hw18
    refine lv_aload_n hx hb dX9_feed_51 rfl (lv_at hl 0 rfl) ?_
    refine va_get (D := G) (ci := 9) (v := .ref (b 0)) (C := RX9) (T := TX9) (N := 11) hx hb hts iG_X9 hown hK hP 0 rfl rfl 0 (by decide) (hts _ w_351) (fun _ h9 => h9) rfl dX9_feed_52 ?_
    refine va_getN (D := G) (ci := 4) (v := .ref (br 2)) (C := RX4) (T := TX4) (N := 7) hx hb hts iG_X4 hown hK hP 1 rfl rfl 2 (by decide) (nz_use hZ nw_168 rfl) (fun _ h9 => h9) rfl dX9_feed_55 ?_
    refine lv_iload hx hb dX9_feed_58 (lv_at hl 4 rfl) ?_
    refine k_v (wc := [(br 2, oX8 bp o_lengtho19), (bp 0, .inl (cB, 900, .inl o_f0o20))]) (wr := [(h0, oX9 b), (b 0, oX4 br d_fault d_place d_kind d_start d_stop)]) hP hD hS hA [2, 3] [0, 1] rfl rfl rfl (by decide) (va_runVN (As := [.int p3]) (rest := []) ⟨hx, hb, hml, hown, hts⟩ (f_X8_put l G cI cJ cZ cB cQ _ (br 2) p3 bp o_lengtho19 o_f0o20 w21 w22) ⟨va_cnB (host := "WidowRoads") 1 hts (gW w_392) rfl rfl rfl (nz_nw hZ nw_389 rfl) (hts _ w_3) hd_X8_put ⟨Nat.le_of_ble_eq_true rfl, Nat.le_of_ble_eq_true rfl⟩, (hts _ w_391), (hts _ wp_0)⟩ (mV hK hZ hP hD [2, 3] rfl rfl [.int p3] 2 8 rfl rfl) rfl rfl hl.1 rfl (lv_room (Nat.le_of_ble_eq_true rfl)) dX9_feed_60 ⟨Nat.le_of_ble_eq_true rfl, Nat.le_of_ble_eq_true rfl⟩) (fun u24 H locs hw25 hP hD hS => ?_)
    obtain ⟨o_lengtho26, o_f0o27⟩ := u24
    try dsimp only at hw25
    have hP : va_P G vwCl [(h0, oX9 b), (b 0, oX4 br d_fault d_place d_kind d_start d_stop), (br 2, oX8 bp o_lengtho26), (bp 0, .inl (cB, 900, .inl o_f0o27))] H := hP
    have hD : va_D A [(h0, oX9 b), (b 0, oX4 br d_fault d_place d_kind d_start d_stop), (br 2, oX8 bp o_lengtho26), (bp 0, .inl (cB, 900, .inl o_f0o27))] := hD
    obtain ⟨w28, w29⟩ : 0 ≤ o_lengtho26.toInt ∧ o_lengtho26.toInt ≤ 900 := hw25
    refine lv_aload_n hx hb dX9_feed_63 rfl (lv_at hl 0 rfl) ?_
    refine va_get (D := G) (ci := 9) (v := .ref (b 0)) (C := RX9) (T := TX9) (N := 11) hx hb hts iG_X9 hown hK hP 0 rfl rfl 0 (by decide) (hts _ w_351) (fun _ h9 => h9) rfl dX9_feed_64 ?_
    refine va_getN (D := G) (ci := 4) (v := .ref (br 2)) (C := RX4) (T := TX4) (N := 7) hx hb hts iG_X4 hown hK hP 1 rfl rfl 2 (by decide) (nz_use hZ nw_168 rfl) (fun _ h9 => h9) rfl dX9_feed_67 ?_
    refine lv_iload hx hb dX9_feed_70 (lv_at hl 5 rfl) ?_
    refine k_v (wc := [(br 2, oX8 bp o_lengtho26), (bp 0, .inl (cB, 900, .inl o_f0o27))]) (wr := [(h0, oX9 b), (b 0, oX4 br d_fault d_place d_kind d_start d_stop)]) hP hD hS hA [2, 3] [0, 1] rfl rfl rfl (by decide) (va_runVN (As := [.int p4]) (rest := []) ⟨hx, hb, hml, hown, hts⟩ (f_X8_put l G cI cJ cZ cB cQ _ (br 2) p4 bp o_lengtho26 o_f0o27 w28 w29) ⟨va_cnB (host := "WidowRoads") 1 hts (gW w_392) rfl rfl rfl (nz_nw hZ nw_389 rfl) (hts _ w_3) hd_X8_put ⟨Nat.le_of_ble_eq_true rfl, Nat.le_of_ble_eq_true rfl⟩, (hts _ w_391), (hts _ wp_0)⟩ (mV hK hZ hP hD [2, 3] rfl rfl [.int p4] 2 8 rfl rfl) rfl rfl hl.1 rfl (lv_room (Nat.le_of_ble_eq_true rfl)) dX9_feed_72 ⟨Nat.le_of_ble_eq_true rfl, Nat.le_of_ble_eq_true rfl⟩) (fun u31 H locs hw32 hP hD hS => ?_)
    obtain ⟨o_lengtho33, o_f0o34⟩ := u31
    try dsimp only at hw32
    have hP : va_P G vwCl [(h0, oX9 b), (b 0, oX4 br d_fault d_place d_kind d_start d_stop), (br 2, oX8 bp o_lengtho33), (bp 0, .inl (cB, 900, .inl o_f0o34))] H := hP
    have hD : va_D A [(h0, oX9 b), (b 0, oX4 br d_fault d_place d_kind d_start d_stop), (br 2, oX8 bp o_lengtho33), (bp 0, .inl (cB, 900, .inl o_f0o34))] := hD
    obtain ⟨w35, w36⟩ : 0 ≤ o_lengtho33.toInt ∧ o_lengtho33.toInt ≤ 900 := hw32
    refine lv_aload_n hx hb dX9_feed_75 rfl (lv_at hl 0 rfl) ?_
    refine va_get (D := G) (ci := 9) (v := .ref (b 0)) (C := RX9) (T := TX9) (N := 11) hx hb hts iG_X9 hown hK hP 0 rfl rfl 0 (by decide) (hts _ w_351) (fun _ h9 => h9) rfl dX9_feed_76 ?_
    refine va_getN (D := G) (ci := 4) (v := .ref (br 2)) (C := RX4) (T := TX4) (N := 7) hx hb hts iG_X4 hown hK hP 1 rfl rfl 2 (by decide) (nz_use hZ nw_168 rfl) (fun _ h9 => h9) rfl dX9_feed_79 ?_
    refine va_getN (D := G) (ci := 8) (v := .int o_lengtho33) (C := RX8) (T := TX8) (N := 2) hx hb hts iG_X8 hown hK hP 2 rfl rfl 1 (by decide) (nz_use hZ nw_41 rfl) (fun _ h9 => h9) rfl dX9_feed_82 ?_
    exact hret _ _ _ _ o_lengtho33 (o_lengtho33, o_f0o34) hP hD hS dX9_feed_85 (show 0 ≤ o_lengtho33.toInt ∧ o_lengtho33.toInt ≤ 900 from ⟨w35, w36⟩)
  · have c1 := i_nle rfl ki_880 c1
    refine lv_iconst (v := (-1)) hx hb dX9_feed_16 (by decide) ?_
    exact hret _ _ _ _ (-1) (a_length, a_f0) hP hD hS dX9_feed_17 (show 0 ≤ a_length.toInt ∧ a_length.toInt ≤ 900 from ⟨(by omega), hh_a_length⟩)
set_option maxHeartbeats 4000000 in
set_option maxRecDepth 100000 in
theorem f_X9_end (l : Launch) (G : va_G) (cI cJ cZ cB cQ : ClassId) (sz : Nat) (h0 : Nat) (p0 : Int32) (b : Nat → Nat) (br : Nat → Nat) (d_fault : Int32) (d_place : Int32) (d_kind : Int32) (d_start : Int32) (d_stop : Int32) (bp : Nat → Nat) (a_length : Int32) (hl_a_length : 0 ≤ a_length.toInt) (hh_a_length : a_length.toInt ≤ 900) : CI l yX9_end (wl_ yX9_end cX9_end 2 (some .int)) ({ frames := 0, cells := 0, slots := 0, locals := 0 } : Room) G (TY cI cJ cZ cB cQ) [.ref h0, .int p0] [(h0, oX9 b), (b 0, oX4 br d_fault d_place d_kind d_start d_stop), (br 2, oX8 bp a_length)] sz (fun (r : Int32) (u : Int32) => 0 ≤ u.toInt ∧ u.toInt ≤ 900) (fun u : Int32 => [(h0, oX9 b), (b 0, oX4 br d_fault d_place d_kind d_start d_stop), (br 2, oX8 bp u)]) 0 0 := by
  refine CI.go (cc := cX9_end) (maxL := 2) (ret := (some .int)) (by decide) rfl (Nat.le_of_ble_eq_true rfl) ?_
  intro p e s m below meth c A ls Q hBd hret
  obtain ⟨hx, hb, hr, hml, hts, hown, hlk, hnm, hP, hK, hD, hA, hZ, hl⟩ := hBd
  have hown : s.vm.findClass RX9 = some m.cls := hown
  have hl : lv_has ls 2 [(0, .ref h0), (1, .int p0)] := hl
  have hS : va_S A s.heap s.heap [] := va_S.rf
  refine lv_iload_n hx hb dX9_end_0 rfl (lv_at hl 1 rfl) ?_
  refine lv_if_lt (tgt := 18) hx hb dX9_end_1 (by decide) (fun c1 => ?_) (fun c1 => ?_)
  · have c1 := i_lt rfl ki_0 c1
    refine lv_iconst (v := (-1)) hx hb dX9_end_18 (by decide) ?_
    exact hret _ _ _ _ (-1) a_length hP hD hS dX9_end_19 (show 0 ≤ a_length.toInt ∧ a_length.toInt ≤ 900 from ⟨hl_a_length, hh_a_length⟩)
  · have c1 := i_nlt rfl ki_0 c1
    refine lv_iload_n hx hb dX9_end_4 rfl (lv_at hl 1 rfl) ?_
    refine lv_aload_n hx hb dX9_end_5 rfl (lv_at hl 0 rfl) ?_
    refine va_get (D := G) (ci := 9) (v := .ref (b 0)) (C := RX9) (T := TX9) (N := 11) hx hb hts iG_X9 hown hK hP 0 rfl rfl 0 (by decide) (hts _ w_351) (fun _ h9 => h9) rfl dX9_end_6 ?_
    refine va_getN (D := G) (ci := 4) (v := .ref (br 2)) (C := RX4) (T := TX4) (N := 7) hx hb hts iG_X4 hown hK hP 1 rfl rfl 2 (by decide) (nz_use hZ nw_168 rfl) (fun _ h9 => h9) rfl dX9_end_9 ?_
    refine va_getN (D := G) (ci := 8) (v := .int a_length) (C := RX8) (T := TX8) (N := 2) hx hb hts iG_X8 hown hK hP 2 rfl rfl 1 (by decide) (nz_use hZ nw_41 rfl) (fun _ h9 => h9) rfl dX9_end_12 ?_
    refine lv_icmp_le (tgt := 20) hx hb dX9_end_15 (by decide) (fun c2 => ?_) (fun c2 => ?_)
    · have c2 := i_le rfl rfl c2
      refine lv_aload_n hx hb dX9_end_20 rfl (lv_at hl 0 rfl) ?_
      refine va_get (D := G) (ci := 9) (v := .ref (b 0)) (C := RX9) (T := TX9) (N := 11) hx hb hts iG_X9 hown hK hP 0 rfl rfl 0 (by decide) (hts _ w_351) (fun _ h9 => h9) rfl dX9_end_21 ?_
      refine va_getN (D := G) (ci := 4) (v := .ref (br 2)) (C := RX4) (T := TX4) (N := 7) hx hb hts iG_X4 hown hK hP 1 rfl rfl 2 (by decide) (nz_use hZ nw_168 rfl) (fun _ h9 => h9) rfl dX9_end_24 ?_
      refine lv_iload_n hx hb dX9_end_27 rfl (lv_at hl 1 rfl) ?_
      refine va_putN (D := G) (ci := 8) (v := .int p0) (ty := .int) (C := RX8) (T := TX8) (N := 2) hx hb hts iG_X8 tyX8 tyX8_ok nmX8 hown hK hP hD hS 2 rfl rfl 1 (by decide) (nz_use hZ nw_41 rfl) (fun _ h9 => h9) rfl (by decide +kernel) rfl rfl (Nat.le_of_ble_eq_true rfl) dX9_end_28 (fun H locs hP hD hS => ?_)
      have hP : va_P G vwCl [(h0, oX9 b), (b 0, oX4 br d_fault d_place d_kind d_start d_stop), (br 2, oX8 bp p0)] H := hP
      have hD : va_D A [(h0, oX9 b), (b 0, oX4 br d_fault d_place d_kind d_start d_stop), (br 2, oX8 bp p0)] := hD
      refine lv_iload_n hx hb dX9_end_31 rfl (lv_at hl 1 rfl) ?_
      exact hret _ _ _ _ p0 p0 hP hD hS dX9_end_32 (show 0 ≤ p0.toInt ∧ p0.toInt ≤ 900 from ⟨(by omega), (by omega)⟩)
    · have c2 := i_nle rfl rfl c2
      refine lv_iconst (v := (-1)) hx hb dX9_end_18 (by decide) ?_
      exact hret _ _ _ _ (-1) a_length hP hD hS dX9_end_19 (show 0 ≤ a_length.toInt ∧ a_length.toInt ≤ 900 from ⟨hl_a_length, hh_a_length⟩)
set_option maxHeartbeats 4000000 in
set_option maxRecDepth 100000 in
theorem f_X9_fault (l : Launch) (G : va_G) (cI cJ cZ cB cQ : ClassId) (sz : Nat) (h0 : Nat) (p0 : Int32) (b : Nat → Nat) (br : Nat → Nat) (d_fault : Int32) (d_place : Int32) (d_kind : Int32) (d_start : Int32) (d_stop : Int32) : CI l yX9_fault (wl_ yX9_fault cX9_fault 2 (some .int)) ({ frames := 0, cells := 0, slots := 0, locals := 0 } : Room) G (TY cI cJ cZ cB cQ) [.ref h0, .int p0] [(h0, oX9 b), (b 0, oX4 br d_fault d_place d_kind d_start d_stop)] sz (fun (r : Int32) (u : Unit) => True) (fun _ : Unit => [(h0, oX9 b), (b 0, oX4 br d_fault d_place d_kind d_start d_stop)]) 0 0 := by
  refine CI.go (cc := cX9_fault) (maxL := 2) (ret := (some .int)) (by decide) rfl (Nat.le_of_ble_eq_true rfl) ?_
  intro p e s m below meth c A ls Q hBd hret
  obtain ⟨hx, hb, hr, hml, hts, hown, hlk, hnm, hP, hK, hD, hA, hZ, hl⟩ := hBd
  have hown : s.vm.findClass RX9 = some m.cls := hown
  have hl : lv_has ls 2 [(0, .ref h0), (1, .int p0)] := hl
  have hS : va_S A s.heap s.heap [] := va_S.rf
  refine lv_iload_n hx hb dX9_fault_0 rfl (lv_at hl 1 rfl) ?_
  refine lv_if_ne (tgt := 12) hx hb dX9_fault_1 (by decide) (fun c1 => ?_) (fun c1 => ?_)
  · have c1 := i_ne rfl ki_0 c1
    refine lv_iload_n hx hb dX9_fault_12 rfl (lv_at hl 1 rfl) ?_
    refine lv_iconst (v := 1) hx hb dX9_fault_13 (by decide) ?_
    refine lv_icmp_ne (tgt := 27) hx hb dX9_fault_14 (by decide) (fun c2 => ?_) (fun c2 => ?_)
    · have c2 := i_ne rfl ki_1 c2
      refine lv_iconst (v := (-1)) hx hb dX9_fault_27 (by decide) ?_
      exact hret _ _ _ _ (-1) () hP hD hS dX9_fault_28 trivial
    · have c2 := i_eq rfl ki_1 c2
      refine lv_aload_n hx hb dX9_fault_17 rfl (lv_at hl 0 rfl) ?_
      refine va_get (D := G) (ci := 9) (v := .ref (b 0)) (C := RX9) (T := TX9) (N := 11) hx hb hts iG_X9 hown hK hP 0 rfl rfl 0 (by decide) (hts _ w_351) (fun _ h9 => h9) rfl dX9_fault_18 ?_
      refine va_getN (D := G) (ci := 4) (v := .int d_place) (C := RX4) (T := TX4) (N := 7) hx hb hts iG_X4 hown hK hP 1 rfl rfl 1 (by decide) (nz_use hZ nw_166 rfl) (fun _ h9 => h9) rfl dX9_fault_21 ?_
      refine lv_goto (tgt := 28) hx hb dX9_fault_24 (by decide) ?_
      exact hret _ _ _ _ d_place () hP hD hS dX9_fault_28 trivial
  · have c1 := i_eq rfl ki_0 c1
    refine lv_aload_n hx hb dX9_fault_4 rfl (lv_at hl 0 rfl) ?_
    refine va_get (D := G) (ci := 9) (v := .ref (b 0)) (C := RX9) (T := TX9) (N := 11) hx hb hts iG_X9 hown hK hP 0 rfl rfl 0 (by decide) (hts _ w_351) (fun _ h9 => h9) rfl dX9_fault_5 ?_
    refine va_getN (D := G) (ci := 4) (v := .int d_fault) (C := RX4) (T := TX4) (N := 7) hx hb hts iG_X4 hown hK hP 1 rfl rfl 0 (by decide) (nz_use hZ nw_164 rfl) (fun _ h9 => h9) rfl dX9_fault_8 ?_
    exact hret _ _ _ _ d_fault () hP hD hS dX9_fault_11 trivial
set_option maxHeartbeats 4000000 in
set_option maxRecDepth 100000 in
theorem f_X9_creek (l : Launch) (G : va_G) (cI cJ cZ cB cQ : ClassId) (sz : Nat) (h0 : Nat) (p0 : Int32) (b : Nat → Nat) (bt : Nat → Nat) (t_lines : Int32) (t_span : Int32) (t_rule : Int32) (t_odds : Int32) (t_wide : Int32) (t_high : Int32) (t_creeks : Int32) (t_houses : Int32) (t_widows : Int32) (t_acts : Int32) (t_f10 : Nat → Int32) (t_f18 : Nat → Int32) (hl_t_span : 0 ≤ t_span.toInt) (hh_t_span : t_span.toInt ≤ 12) (hl_t_rule : 0 ≤ t_rule.toInt) (hh_t_rule : t_rule.toInt ≤ 3) (hl_t_odds : 0 ≤ t_odds.toInt) (hh_t_odds : t_odds.toInt ≤ 10) (hl_t_wide : 0 ≤ t_wide.toInt) (hh_t_wide : t_wide.toInt ≤ 8) (hl_t_high : 0 ≤ t_high.toInt) (hh_t_high : t_high.toInt ≤ 8) (hl_t_creeks : 0 ≤ t_creeks.toInt) (hh_t_creeks : t_creeks.toInt ≤ 12) (hl_t_houses : 0 ≤ t_houses.toInt) (hh_t_houses : t_houses.toInt ≤ 6) (hl_t_widows : 0 ≤ t_widows.toInt) (hh_t_widows : t_widows.toInt ≤ 7) (hl_t_acts : 0 ≤ t_acts.toInt) (hh_t_acts : t_acts.toInt ≤ 30) : CI l yX9_creek (wl_ yX9_creek cX9_creek 3 (some .int)) ({ frames := 2, cells := 0, slots := 0, locals := 43 } : Room) G (TY cI cJ cZ cB cQ) [.ref h0, .int p0] [(h0, oX9 b), (b 1, oX0 bt t_lines t_span t_rule t_odds t_wide t_high t_creeks t_houses t_widows t_acts), (bt 10, .inl (cI, 12, .inl t_f10)), (bt 18, .inl (cI, 30, .inl t_f18))] sz (fun (r : Int32) (u : Unit) => True) (fun _ : Unit => [(h0, oX9 b), (b 1, oX0 bt t_lines t_span t_rule t_odds t_wide t_high t_creeks t_houses t_widows t_acts), (bt 10, .inl (cI, 12, .inl t_f10)), (bt 18, .inl (cI, 30, .inl t_f18))]) 0 0 := by
  refine CI.go (cc := cX9_creek) (maxL := 3) (ret := (some .int)) (by decide) rfl (Nat.le_of_ble_eq_true rfl) ?_
  intro p e s m below meth c A ls Q hBd hret
  obtain ⟨hx, hb, hr, hml, hts, hown, hlk, hnm, hP, hK, hD, hA, hZ, hl⟩ := hBd
  have hown : s.vm.findClass RX9 = some m.cls := hown
  have hl : lv_has ls 3 [(0, .ref h0), (1, .int p0)] := hl
  have hS : va_S A s.heap s.heap [] := va_S.rf
  refine lv_aload_n hx hb dX9_creek_0 rfl (lv_at hl 0 rfl) ?_
  refine va_get (D := G) (ci := 9) (v := .ref (b 1)) (C := RX9) (T := TX9) (N := 11) hx hb hts iG_X9 hown hK hP 0 rfl rfl 1 (by decide) (hts _ w_352) (fun _ h9 => h9) rfl dX9_creek_1 ?_
  refine lv_iload_n hx hb dX9_creek_4 rfl (lv_at hl 1 rfl) ?_
  obtain ⟨v1, ev1⟩ : ∃ y : Int64, p0.toInt64 = y := ⟨_, rfl⟩
  have tv1 : v1.toInt = p0.toInt := ti_wide rfl ev1
  refine lv_i2l (v := v1) hx hb dX9_creek_5 ev1 ?_
  refine k_i (wc := [(b 1, oX0 bt t_lines t_span t_rule t_odds t_wide t_high t_creeks t_houses t_widows t_acts)]) (wr := [(h0, oX9 b), (bt 10, .inl (cI, 12, .inl t_f10)), (bt 18, .inl (cI, 30, .inl t_f18))]) hP hD hS hA [1] [0, 2, 3] rfl rfl rfl (by decide) (va_runVN (As := [.long v1]) (rest := []) ⟨hx, hb, hml, hown, hts⟩ (f_X0_spotOf l G cI cJ cZ cB cQ _ (b 1) v1 bt t_lines t_span t_rule t_odds t_wide t_high t_creeks t_houses t_widows t_acts hl_t_span hh_t_span hl_t_rule hh_t_rule hl_t_odds hh_t_odds hl_t_wide hh_t_wide hl_t_high hh_t_high hl_t_creeks hh_t_creeks hl_t_houses hh_t_houses hl_t_widows hh_t_widows hl_t_acts hh_t_acts) ⟨va_cnB (host := "WidowRoads") 1 hts (gW w_656) rfl rfl rfl (nz_nw hZ nw_653 rfl) (hts _ w_4) hd_X0_spotOf ⟨Nat.le_of_ble_eq_true rfl, Nat.le_of_ble_eq_true rfl⟩, (hts _ w_655), (hts _ wp_34)⟩ (mV hK hZ hP hD [1] rfl rfl [.long v1] 1 0 rfl rfl) rfl rfl hl.1 rfl (lv_room (Nat.le_of_ble_eq_true rfl)) dX9_creek_6 ⟨Nat.le_of_ble_eq_true rfl, Nat.le_of_ble_eq_true rfl⟩) (fun r2 u3 H locs hw4 hP hD hS => ?_)
  try dsimp only at hw4
  have hP : va_P G vwCl [(h0, oX9 b), (bt 10, .inl (cI, 12, .inl t_f10)), (bt 18, .inl (cI, 30, .inl t_f18)), (b 1, oX0 bt t_lines t_span t_rule t_odds t_wide t_high t_creeks t_houses t_widows t_acts)] H := hP
  have hD : va_D A [(h0, oX9 b), (bt 10, .inl (cI, 12, .inl t_f10)), (bt 18, .inl (cI, 30, .inl t_f18)), (b 1, oX0 bt t_lines t_span t_rule t_odds t_wide t_high t_creeks t_houses t_widows t_acts)] := hD
  refine lv_istore_n (lv' := [(2, .int r2), (0, .ref h0), (1, .int p0)]) hx hb dX9_creek_9 rfl hl (by decide) rfl (fun ls hl => ?_)
  refine lv_iload_n hx hb dX9_creek_10 rfl (lv_at hl 0 rfl) ?_
  refine lv_iconst (v := (-1)) hx hb dX9_creek_11 (by decide) ?_
  refine lv_icmp_ne (tgt := 18) hx hb dX9_creek_12 (by decide) (fun c5 => ?_) (fun c5 => ?_)
  · have c5 := i_ne rfl ki_m1 c5
    refine lv_aload_n hx hb dX9_creek_18 rfl (lv_at hl 1 rfl) ?_
    refine va_get (D := G) (ci := 9) (v := .ref (b 1)) (C := RX9) (T := TX9) (N := 11) hx hb hts iG_X9 hown hK hP 0 rfl rfl 1 (by decide) (hts _ w_352) (fun _ h9 => h9) rfl dX9_creek_19 ?_
    refine k_l (wc := [(b 1, oX0 bt t_lines t_span t_rule t_odds t_wide t_high t_creeks t_houses t_widows t_acts), (bt 10, .inl (cI, 12, .inl t_f10)), (bt 18, .inl (cI, 30, .inl t_f18))]) (wr := [(h0, oX9 b)]) hP hD hS hA [3, 1, 2] [0] rfl rfl rfl (by decide) (va_runVN (As := []) (rest := []) ⟨hx, hb, hml, hown, hts⟩ (f_X0_creekBits l G cI cJ cZ cB cQ _ (b 1) bt t_lines t_span t_rule t_odds t_wide t_high t_creeks t_houses t_widows t_acts t_f10 t_f18 hl_t_span hh_t_span hl_t_rule hh_t_rule hl_t_odds hh_t_odds hl_t_wide hh_t_wide hl_t_high hh_t_high hl_t_creeks hh_t_creeks hl_t_houses hh_t_houses hl_t_widows hh_t_widows hl_t_acts hh_t_acts) ⟨va_cnB (host := "WidowRoads") 0 hts (gW w_516) rfl rfl rfl (nz_nw hZ nw_659 rfl) (hts _ w_4) hd_X0_creekBits ⟨Nat.le_of_ble_eq_true rfl, Nat.le_of_ble_eq_true rfl⟩, (hts _ w_515), (hts _ wp_12)⟩ (mV hK hZ hP hD [3, 1, 2] rfl rfl [] 3 0 rfl rfl) rfl rfl hl.1 rfl (lv_room (Nat.le_of_ble_eq_true rfl)) dX9_creek_22 ⟨Nat.le_of_ble_eq_true rfl, Nat.le_of_ble_eq_true rfl⟩) (fun r6 u7 H locs hw8 hP hD hS => ?_)
    try dsimp only at hw8
    have hP : va_P G vwCl [(h0, oX9 b), (b 1, oX0 bt t_lines t_span t_rule t_odds t_wide t_high t_creeks t_houses t_widows t_acts), (bt 10, .inl (cI, 12, .inl t_f10)), (bt 18, .inl (cI, 30, .inl t_f18))] H := hP
    have hD : va_D A [(h0, oX9 b), (b 1, oX0 bt t_lines t_span t_rule t_odds t_wide t_high t_creeks t_houses t_widows t_acts), (bt 10, .inl (cI, 12, .inl t_f10)), (bt 18, .inl (cI, 30, .inl t_f18))] := hD
    refine lv_iload_n hx hb dX9_creek_25 rfl (lv_at hl 0 rfl) ?_
    refine k_i (wc := []) (wr := [(h0, oX9 b), (b 1, oX0 bt t_lines t_span t_rule t_odds t_wide t_high t_creeks t_houses t_widows t_acts), (bt 10, .inl (cI, 12, .inl t_f10)), (bt 18, .inl (cI, 30, .inl t_f18))]) hP hD hS hA [] [0, 1, 2, 3] rfl rfl rfl (by decide) (va_runS (As := [.long r6, .int r2]) (rest := []) ⟨hx, hb, hml, hown, hts⟩ (f_X9_has l G cI cJ cZ cB cQ _ r6 r2) (va_cwS 2 hts (gS w_660 w_526 w_1 w_527) rfl rfl rfl hd_X9_has ⟨Nat.le_of_ble_eq_true rfl, Nat.le_of_ble_eq_true rfl⟩) (mS hK hZ hP hD [] rfl rfl [.long r6, .int r2]) rfl rfl hl.1 rfl (lv_room (Nat.le_of_ble_eq_true rfl)) dX9_creek_26 ⟨Nat.le_of_ble_eq_true rfl, Nat.le_of_ble_eq_true rfl⟩) (fun r9 u10 H locs hw11 hP hD hS => ?_)
    try dsimp only at hw11
    have hP : va_P G vwCl [(h0, oX9 b), (b 1, oX0 bt t_lines t_span t_rule t_odds t_wide t_high t_creeks t_houses t_widows t_acts), (bt 10, .inl (cI, 12, .inl t_f10)), (bt 18, .inl (cI, 30, .inl t_f18))] H := hP
    have hD : va_D A [(h0, oX9 b), (b 1, oX0 bt t_lines t_span t_rule t_odds t_wide t_high t_creeks t_houses t_widows t_acts), (bt 10, .inl (cI, 12, .inl t_f10)), (bt 18, .inl (cI, 30, .inl t_f18))] := hD
    obtain ⟨w12, w13⟩ : 0 ≤ r9.toInt ∧ r9.toInt ≤ 1 := hw11
    refine k_i (wc := []) (wr := [(h0, oX9 b), (b 1, oX0 bt t_lines t_span t_rule t_odds t_wide t_high t_creeks t_houses t_widows t_acts), (bt 10, .inl (cI, 12, .inl t_f10)), (bt 18, .inl (cI, 30, .inl t_f18))]) hP hD hS hA [] [0, 1, 2, 3] rfl rfl rfl (by decide) (va_runS (As := [.int r9]) (rest := []) ⟨hx, hb, hml, hown, hts⟩ (f_X9_oneIf l G cI cJ cZ cB cQ _ r9) (va_cwS 1 hts (gS w_661 w_662 w_1 w_663) rfl rfl rfl hd_X9_oneIf ⟨Nat.le_of_ble_eq_true rfl, Nat.le_of_ble_eq_true rfl⟩) (mS hK hZ hP hD [] rfl rfl [.int r9]) rfl rfl hl.1 rfl (lv_room (Nat.le_of_ble_eq_true rfl)) dX9_creek_29 ⟨Nat.le_of_ble_eq_true rfl, Nat.le_of_ble_eq_true rfl⟩) (fun r14 u15 H locs hw16 hP hD hS => ?_)
    try dsimp only at hw16
    have hP : va_P G vwCl [(h0, oX9 b), (b 1, oX0 bt t_lines t_span t_rule t_odds t_wide t_high t_creeks t_houses t_widows t_acts), (bt 10, .inl (cI, 12, .inl t_f10)), (bt 18, .inl (cI, 30, .inl t_f18))] H := hP
    have hD : va_D A [(h0, oX9 b), (b 1, oX0 bt t_lines t_span t_rule t_odds t_wide t_high t_creeks t_houses t_widows t_acts), (bt 10, .inl (cI, 12, .inl t_f10)), (bt 18, .inl (cI, 30, .inl t_f18))] := hD
    obtain ⟨w17, w18⟩ : 0 ≤ r14.toInt ∧ r14.toInt ≤ 1 := hw16
    exact hret _ _ _ _ r14 () hP hD hS dX9_creek_32 trivial
  · have c5 := i_eq rfl ki_m1 c5
    refine lv_bipush (v := (-2)) hx hb dX9_creek_15 (by decide) ?_
    exact hret _ _ _ _ (-2) () (hP.sub (ws' := [(h0, oX9 b), (b 1, oX0 bt t_lines t_span t_rule t_odds t_wide t_high t_creeks t_houses t_widows t_acts), (bt 10, .inl (cI, 12, .inl t_f10)), (bt 18, .inl (cI, 30, .inl t_f18))]) [0, 3, 1, 2] rfl) (hD.sub (ws' := [(h0, oX9 b), (b 1, oX0 bt t_lines t_span t_rule t_odds t_wide t_high t_creeks t_houses t_widows t_acts), (bt 10, .inl (cI, 12, .inl t_f10)), (bt 18, .inl (cI, 30, .inl t_f18))]) [0, 3, 1, 2] rfl rfl) hS dX9_creek_17 trivial
set_option maxHeartbeats 4000000 in
set_option maxRecDepth 100000 in
theorem f_X9_widow (l : Launch) (G : va_G) (cI cJ cZ cB cQ : ClassId) (sz : Nat) (h0 : Nat) (p0 : Int32) (p1 : Int32) (b : Nat → Nat) (bt : Nat → Nat) (t_lines : Int32) (t_span : Int32) (t_rule : Int32) (t_odds : Int32) (t_wide : Int32) (t_high : Int32) (t_creeks : Int32) (t_houses : Int32) (t_widows : Int32) (t_acts : Int32) (t_f12 : Nat → Int32) (t_f13 : Nat → Int32) (t_f14 : Nat → Int32) (t_f15 : Nat → Int32) (t_f16 : Nat → Int32) (hl_t_span : 0 ≤ t_span.toInt) (hh_t_span : t_span.toInt ≤ 12) (hl_t_rule : 0 ≤ t_rule.toInt) (hh_t_rule : t_rule.toInt ≤ 3) (hl_t_odds : 0 ≤ t_odds.toInt) (hh_t_odds : t_odds.toInt ≤ 10) (hl_t_wide : 0 ≤ t_wide.toInt) (hh_t_wide : t_wide.toInt ≤ 8) (hl_t_high : 0 ≤ t_high.toInt) (hh_t_high : t_high.toInt ≤ 8) (hl_t_creeks : 0 ≤ t_creeks.toInt) (hh_t_creeks : t_creeks.toInt ≤ 12) (hl_t_houses : 0 ≤ t_houses.toInt) (hh_t_houses : t_houses.toInt ≤ 6) (hl_t_widows : 0 ≤ t_widows.toInt) (hh_t_widows : t_widows.toInt ≤ 7) (hl_t_acts : 0 ≤ t_acts.toInt) (hh_t_acts : t_acts.toInt ≤ 30) (ha_t_f14 : ai t_f14 7 (-2147483648) 40) (ha_t_f16 : ai t_f16 7 (-2147483648) 8) : CI l yX9_widow (wl_ yX9_widow cX9_widow 3 (some .int)) ({ frames := 1, cells := 0, slots := 0, locals := 22 } : Room) G (TY cI cJ cZ cB cQ) [.ref h0, .int p0, .int p1] [(h0, oX9 b), (b 1, oX0 bt t_lines t_span t_rule t_odds t_wide t_high t_creeks t_houses t_widows t_acts), (bt 12, .inl (cI, 7, .inl t_f12)), (bt 13, .inl (cI, 7, .inl t_f13)), (bt 14, .inl (cI, 7, .inl t_f14)), (bt 15, .inl (cI, 7, .inl t_f15)), (bt 16, .inl (cI, 7, .inl t_f16))] sz (fun (r : Int32) (u : Unit) => True) (fun _ : Unit => [(h0, oX9 b), (b 1, oX0 bt t_lines t_span t_rule t_odds t_wide t_high t_creeks t_houses t_widows t_acts), (bt 12, .inl (cI, 7, .inl t_f12)), (bt 13, .inl (cI, 7, .inl t_f13)), (bt 14, .inl (cI, 7, .inl t_f14)), (bt 15, .inl (cI, 7, .inl t_f15)), (bt 16, .inl (cI, 7, .inl t_f16))]) 0 0 := by
  refine CI.go (cc := cX9_widow) (maxL := 3) (ret := (some .int)) (by decide) rfl (Nat.le_of_ble_eq_true rfl) ?_
  intro p e s m below meth c A ls Q hBd hret
  obtain ⟨hx, hb, hr, hml, hts, hown, hlk, hnm, hP, hK, hD, hA, hZ, hl⟩ := hBd
  have hown : s.vm.findClass RX9 = some m.cls := hown
  have hl : lv_has ls 3 [(0, .ref h0), (1, .int p0), (2, .int p1)] := hl
  have hS : va_S A s.heap s.heap [] := va_S.rf
  refine lv_aload_n hx hb dX9_widow_0 rfl (lv_at hl 0 rfl) ?_
  refine va_get (D := G) (ci := 9) (v := .ref (b 1)) (C := RX9) (T := TX9) (N := 11) hx hb hts iG_X9 hown hK hP 0 rfl rfl 1 (by decide) (hts _ w_352) (fun _ h9 => h9) rfl dX9_widow_1 ?_
  refine lv_iload_n hx hb dX9_widow_4 rfl (lv_at hl 1 rfl) ?_
  obtain ⟨v1, ev1⟩ : ∃ y : Int64, p0.toInt64 = y := ⟨_, rfl⟩
  have tv1 : v1.toInt = p0.toInt := ti_wide rfl ev1
  refine lv_i2l (v := v1) hx hb dX9_widow_5 ev1 ?_
  refine k_i (wc := [(b 1, oX0 bt t_lines t_span t_rule t_odds t_wide t_high t_creeks t_houses t_widows t_acts)]) (wr := [(h0, oX9 b), (bt 12, .inl (cI, 7, .inl t_f12)), (bt 13, .inl (cI, 7, .inl t_f13)), (bt 14, .inl (cI, 7, .inl t_f14)), (bt 15, .inl (cI, 7, .inl t_f15)), (bt 16, .inl (cI, 7, .inl t_f16))]) hP hD hS hA [1] [0, 2, 3, 4, 5, 6] rfl rfl rfl (by decide) (va_runVN (As := [.long v1]) (rest := []) ⟨hx, hb, hml, hown, hts⟩ (f_X0_hasWidow l G cI cJ cZ cB cQ _ (b 1) v1 p0.toInt bt t_lines t_span t_rule t_odds t_wide t_high t_creeks t_houses t_widows t_acts tv1 hl_t_span hh_t_span hl_t_rule hh_t_rule hl_t_odds hh_t_odds hl_t_wide hh_t_wide hl_t_high hh_t_high hl_t_creeks hh_t_creeks hl_t_houses hh_t_houses hl_t_widows hh_t_widows hl_t_acts hh_t_acts) ⟨va_cnB (host := "WidowRoads") 1 hts (gW w_671) rfl rfl rfl (nz_nw hZ nw_668 rfl) (hts _ w_4) hd_X0_hasWidow ⟨Nat.le_of_ble_eq_true rfl, Nat.le_of_ble_eq_true rfl⟩, (hts _ w_670), (hts _ wp_35)⟩ (mV hK hZ hP hD [1] rfl rfl [.long v1] 1 0 rfl rfl) rfl rfl hl.1 rfl (lv_room (Nat.le_of_ble_eq_true rfl)) dX9_widow_6 ⟨Nat.le_of_ble_eq_true rfl, Nat.le_of_ble_eq_true rfl⟩) (fun r2 u3 H locs hw4 hP hD hS => ?_)
  try dsimp only at hw4
  have hP : va_P G vwCl [(h0, oX9 b), (bt 12, .inl (cI, 7, .inl t_f12)), (bt 13, .inl (cI, 7, .inl t_f13)), (bt 14, .inl (cI, 7, .inl t_f14)), (bt 15, .inl (cI, 7, .inl t_f15)), (bt 16, .inl (cI, 7, .inl t_f16)), (b 1, oX0 bt t_lines t_span t_rule t_odds t_wide t_high t_creeks t_houses t_widows t_acts)] H := hP
  have hD : va_D A [(h0, oX9 b), (bt 12, .inl (cI, 7, .inl t_f12)), (bt 13, .inl (cI, 7, .inl t_f13)), (bt 14, .inl (cI, 7, .inl t_f14)), (bt 15, .inl (cI, 7, .inl t_f15)), (bt 16, .inl (cI, 7, .inl t_f16)), (b 1, oX0 bt t_lines t_span t_rule t_odds t_wide t_high t_creeks t_houses t_widows t_acts)] := hD
  rcases hw4 with ⟨rfl, a6, a7⟩ | ⟨rfl, a8⟩
  · skip
    refine lv_if_ne (tgt := 15) hx hb dX9_widow_9 (by decide) (fun c9 => ?_) (fun c9 => absurd c9 (by decide))
    refine lv_iload_n hx hb dX9_widow_15 rfl (lv_at hl 2 rfl) ?_
    have c10 : (p1.toInt < 0 ∨ 4 < p1.toInt) ∨ p1.toInt = 0 ∨ p1.toInt = 1 ∨ p1.toInt = 2 ∨ p1.toInt = 3 ∨ p1.toInt = 4 := by omega
    rcases c10 with c10 | c10 | c10 | c10 | c10 | c10
    · refine lv_tableOut (tgt := 105) hx hb dX9_widow_16 c10 (by decide) ?_
      refine lv_bipush (v := (-2)) hx hb dX9_widow_105 (by decide) ?_
      exact hret _ _ _ _ (-2) () (hP.sub (ws' := [(h0, oX9 b), (b 1, oX0 bt t_lines t_span t_rule t_odds t_wide t_high t_creeks t_houses t_widows t_acts), (bt 12, .inl (cI, 7, .inl t_f12)), (bt 13, .inl (cI, 7, .inl t_f13)), (bt 14, .inl (cI, 7, .inl t_f14)), (bt 15, .inl (cI, 7, .inl t_f15)), (bt 16, .inl (cI, 7, .inl t_f16))]) [0, 6, 1, 2, 3, 4, 5] rfl) (hD.sub (ws' := [(h0, oX9 b), (b 1, oX0 bt t_lines t_span t_rule t_odds t_wide t_high t_creeks t_houses t_widows t_acts), (bt 12, .inl (cI, 7, .inl t_f12)), (bt 13, .inl (cI, 7, .inl t_f13)), (bt 14, .inl (cI, 7, .inl t_f14)), (bt 15, .inl (cI, 7, .inl t_f15)), (bt 16, .inl (cI, 7, .inl t_f16))]) [0, 6, 1, 2, 3, 4, 5] rfl rfl) hS dX9_widow_107 trivial
    · have zc10 : p1.toInt = 0 := c10
      refine lv_tableIn (off := 36) (tgt := 52) hx hb dX9_widow_16 (by rw [zc10]; decide) (by rw [zc10]; decide) (by rw [zc10]; rfl) (by decide) ?_
      refine lv_aload_n hx hb dX9_widow_52 rfl (lv_at hl 0 rfl) ?_
      refine va_get (D := G) (ci := 9) (v := .ref (b 1)) (C := RX9) (T := TX9) (N := 11) hx hb hts iG_X9 hown hK hP 0 rfl rfl 1 (by decide) (hts _ w_352) (fun _ h9 => h9) rfl dX9_widow_53 ?_
      refine va_getN (D := G) (ci := 0) (v := .ref (bt 12)) (C := RX0) (T := TX0) (N := 19) hx hb hts iG_X0 hown hK hP 6 rfl rfl 12 (by decide) (nz_use hZ nw_99 rfl) (fun _ h9 => h9) rfl dX9_widow_56 ?_
      refine lv_iload_n hx hb dX9_widow_59 rfl (lv_at hl 1 rfl) ?_
      refine va_iald hx hb hK hP 1 0 rfl rfl (ix_in rfl (by omega) (by omega)) dX9_widow_60 ?_
      refine lv_topi (fun v11 ev11 => ?_)
      refine k_i (wc := []) (wr := [(h0, oX9 b), (bt 12, .inl (cI, 7, .inl t_f12)), (bt 13, .inl (cI, 7, .inl t_f13)), (bt 14, .inl (cI, 7, .inl t_f14)), (bt 15, .inl (cI, 7, .inl t_f15)), (bt 16, .inl (cI, 7, .inl t_f16)), (b 1, oX0 bt t_lines t_span t_rule t_odds t_wide t_high t_creeks t_houses t_widows t_acts)]) hP hD hS hA [] [0, 1, 2, 3, 4, 5, 6] rfl rfl rfl (by decide) (va_runS (As := [.int v11]) (rest := []) ⟨hx, hb, hml, hown, hts⟩ (f_X9_cellOf l G cI cJ cZ cB cQ _ v11) (va_cwS 1 hts (gS w_672 w_673 w_1 w_674) rfl rfl rfl hd_X9_cellOf ⟨Nat.le_of_ble_eq_true rfl, Nat.le_of_ble_eq_true rfl⟩) (mS hK hZ hP hD [] rfl rfl [.int v11]) rfl rfl hl.1 rfl (lv_room (Nat.le_of_ble_eq_true rfl)) dX9_widow_61 ⟨Nat.le_of_ble_eq_true rfl, Nat.le_of_ble_eq_true rfl⟩) (fun r12 u13 H locs hw14 hP hD hS => ?_)
      try dsimp only at hw14
      have hP : va_P G vwCl [(h0, oX9 b), (bt 12, .inl (cI, 7, .inl t_f12)), (bt 13, .inl (cI, 7, .inl t_f13)), (bt 14, .inl (cI, 7, .inl t_f14)), (bt 15, .inl (cI, 7, .inl t_f15)), (bt 16, .inl (cI, 7, .inl t_f16)), (b 1, oX0 bt t_lines t_span t_rule t_odds t_wide t_high t_creeks t_houses t_widows t_acts)] H := hP
      have hD : va_D A [(h0, oX9 b), (bt 12, .inl (cI, 7, .inl t_f12)), (bt 13, .inl (cI, 7, .inl t_f13)), (bt 14, .inl (cI, 7, .inl t_f14)), (bt 15, .inl (cI, 7, .inl t_f15)), (bt 16, .inl (cI, 7, .inl t_f16)), (b 1, oX0 bt t_lines t_span t_rule t_odds t_wide t_high t_creeks t_houses t_widows t_acts)] := hD
      exact hret _ _ _ _ r12 () (hP.sub (ws' := [(h0, oX9 b), (b 1, oX0 bt t_lines t_span t_rule t_odds t_wide t_high t_creeks t_houses t_widows t_acts), (bt 12, .inl (cI, 7, .inl t_f12)), (bt 13, .inl (cI, 7, .inl t_f13)), (bt 14, .inl (cI, 7, .inl t_f14)), (bt 15, .inl (cI, 7, .inl t_f15)), (bt 16, .inl (cI, 7, .inl t_f16))]) [0, 6, 1, 2, 3, 4, 5] rfl) (hD.sub (ws' := [(h0, oX9 b), (b 1, oX0 bt t_lines t_span t_rule t_odds t_wide t_high t_creeks t_houses t_widows t_acts), (bt 12, .inl (cI, 7, .inl t_f12)), (bt 13, .inl (cI, 7, .inl t_f13)), (bt 14, .inl (cI, 7, .inl t_f14)), (bt 15, .inl (cI, 7, .inl t_f15)), (bt 16, .inl (cI, 7, .inl t_f16))]) [0, 6, 1, 2, 3, 4, 5] rfl rfl) hS dX9_widow_64 trivial
    · have zc10 : p1.toInt = 1 := c10
      refine lv_tableIn (off := 49) (tgt := 65) hx hb dX9_widow_16 (by rw [zc10]; decide) (by rw [zc10]; decide) (by rw [zc10]; rfl) (by decide) ?_
      refine lv_aload_n hx hb dX9_widow_65 rfl (lv_at hl 0 rfl) ?_
      refine va_get (D := G) (ci := 9) (v := .ref (b 1)) (C := RX9) (T := TX9) (N := 11) hx hb hts iG_X9 hown hK hP 0 rfl rfl 1 (by decide) (hts _ w_352) (fun _ h9 => h9) rfl dX9_widow_66 ?_
      refine va_getN (D := G) (ci := 0) (v := .ref (bt 13)) (C := RX0) (T := TX0) (N := 19) hx hb hts iG_X0 hown hK hP 6 rfl rfl 13 (by decide) (nz_use hZ nw_103 rfl) (fun _ h9 => h9) rfl dX9_widow_69 ?_
      refine lv_iload_n hx hb dX9_widow_72 rfl (lv_at hl 1 rfl) ?_
      refine va_iald hx hb hK hP 2 0 rfl rfl (ix_in rfl (by omega) (by omega)) dX9_widow_73 ?_
      refine lv_topi (fun v15 ev15 => ?_)
      exact hret _ _ _ _ v15 () (hP.sub (ws' := [(h0, oX9 b), (b 1, oX0 bt t_lines t_span t_rule t_odds t_wide t_high t_creeks t_houses t_widows t_acts), (bt 12, .inl (cI, 7, .inl t_f12)), (bt 13, .inl (cI, 7, .inl t_f13)), (bt 14, .inl (cI, 7, .inl t_f14)), (bt 15, .inl (cI, 7, .inl t_f15)), (bt 16, .inl (cI, 7, .inl t_f16))]) [0, 6, 1, 2, 3, 4, 5] rfl) (hD.sub (ws' := [(h0, oX9 b), (b 1, oX0 bt t_lines t_span t_rule t_odds t_wide t_high t_creeks t_houses t_widows t_acts), (bt 12, .inl (cI, 7, .inl t_f12)), (bt 13, .inl (cI, 7, .inl t_f13)), (bt 14, .inl (cI, 7, .inl t_f14)), (bt 15, .inl (cI, 7, .inl t_f15)), (bt 16, .inl (cI, 7, .inl t_f16))]) [0, 6, 1, 2, 3, 4, 5] rfl rfl) hS dX9_widow_74 trivial
    · have zc10 : p1.toInt = 2 := c10
      refine lv_tableIn (off := 59) (tgt := 75) hx hb dX9_widow_16 (by rw [zc10]; decide) (by rw [zc10]; decide) (by rw [zc10]; rfl) (by decide) ?_
      refine lv_aload_n hx hb dX9_widow_75 rfl (lv_at hl 0 rfl) ?_
      refine va_get (D := G) (ci := 9) (v := .ref (b 1)) (C := RX9) (T := TX9) (N := 11) hx hb hts iG_X9 hown hK hP 0 rfl rfl 1 (by decide) (hts _ w_352) (fun _ h9 => h9) rfl dX9_widow_76 ?_
      refine va_getN (D := G) (ci := 0) (v := .ref (bt 14)) (C := RX0) (T := TX0) (N := 19) hx hb hts iG_X0 hown hK hP 6 rfl rfl 14 (by decide) (nz_use hZ nw_107 rfl) (fun _ h9 => h9) rfl dX9_widow_79 ?_
      refine lv_iload_n hx hb dX9_widow_82 rfl (lv_at hl 1 rfl) ?_
      refine va_iald hx hb hK hP 3 0 rfl rfl (ix_in rfl (by omega) (by omega)) dX9_widow_83 ?_
      refine lv_topi (fun v16 ev16 => ?_)
      obtain ⟨ia17, ib18⟩ := ai_get ha_t_f14 rfl (by omega) (by omega) ev16
      exact hret _ _ _ _ v16 () (hP.sub (ws' := [(h0, oX9 b), (b 1, oX0 bt t_lines t_span t_rule t_odds t_wide t_high t_creeks t_houses t_widows t_acts), (bt 12, .inl (cI, 7, .inl t_f12)), (bt 13, .inl (cI, 7, .inl t_f13)), (bt 14, .inl (cI, 7, .inl t_f14)), (bt 15, .inl (cI, 7, .inl t_f15)), (bt 16, .inl (cI, 7, .inl t_f16))]) [0, 6, 1, 2, 3, 4, 5] rfl) (hD.sub (ws' := [(h0, oX9 b), (b 1, oX0 bt t_lines t_span t_rule t_odds t_wide t_high t_creeks t_houses t_widows t_acts), (bt 12, .inl (cI, 7, .inl t_f12)), (bt 13, .inl (cI, 7, .inl t_f13)), (bt 14, .inl (cI, 7, .inl t_f14)), (bt 15, .inl (cI, 7, .inl t_f15)), (bt 16, .inl (cI, 7, .inl t_f16))]) [0, 6, 1, 2, 3, 4, 5] rfl rfl) hS dX9_widow_84 trivial
    · have zc10 : p1.toInt = 3 := c10
      refine lv_tableIn (off := 69) (tgt := 85) hx hb dX9_widow_16 (by rw [zc10]; decide) (by rw [zc10]; decide) (by rw [zc10]; rfl) (by decide) ?_
      refine lv_aload_n hx hb dX9_widow_85 rfl (lv_at hl 0 rfl) ?_
      refine va_get (D := G) (ci := 9) (v := .ref (b 1)) (C := RX9) (T := TX9) (N := 11) hx hb hts iG_X9 hown hK hP 0 rfl rfl 1 (by decide) (hts _ w_352) (fun _ h9 => h9) rfl dX9_widow_86 ?_
      refine va_getN (D := G) (ci := 0) (v := .ref (bt 15)) (C := RX0) (T := TX0) (N := 19) hx hb hts iG_X0 hown hK hP 6 rfl rfl 15 (by decide) (nz_use hZ nw_111 rfl) (fun _ h9 => h9) rfl dX9_widow_89 ?_
      refine lv_iload_n hx hb dX9_widow_92 rfl (lv_at hl 1 rfl) ?_
      refine va_iald hx hb hK hP 4 0 rfl rfl (ix_in rfl (by omega) (by omega)) dX9_widow_93 ?_
      refine lv_topi (fun v19 ev19 => ?_)
      exact hret _ _ _ _ v19 () (hP.sub (ws' := [(h0, oX9 b), (b 1, oX0 bt t_lines t_span t_rule t_odds t_wide t_high t_creeks t_houses t_widows t_acts), (bt 12, .inl (cI, 7, .inl t_f12)), (bt 13, .inl (cI, 7, .inl t_f13)), (bt 14, .inl (cI, 7, .inl t_f14)), (bt 15, .inl (cI, 7, .inl t_f15)), (bt 16, .inl (cI, 7, .inl t_f16))]) [0, 6, 1, 2, 3, 4, 5] rfl) (hD.sub (ws' := [(h0, oX9 b), (b 1, oX0 bt t_lines t_span t_rule t_odds t_wide t_high t_creeks t_houses t_widows t_acts), (bt 12, .inl (cI, 7, .inl t_f12)), (bt 13, .inl (cI, 7, .inl t_f13)), (bt 14, .inl (cI, 7, .inl t_f14)), (bt 15, .inl (cI, 7, .inl t_f15)), (bt 16, .inl (cI, 7, .inl t_f16))]) [0, 6, 1, 2, 3, 4, 5] rfl rfl) hS dX9_widow_94 trivial
    · have zc10 : p1.toInt = 4 := c10
      refine lv_tableIn (off := 79) (tgt := 95) hx hb dX9_widow_16 (by rw [zc10]; decide) (by rw [zc10]; decide) (by rw [zc10]; rfl) (by decide) ?_
      refine lv_aload_n hx hb dX9_widow_95 rfl (lv_at hl 0 rfl) ?_
      refine va_get (D := G) (ci := 9) (v := .ref (b 1)) (C := RX9) (T := TX9) (N := 11) hx hb hts iG_X9 hown hK hP 0 rfl rfl 1 (by decide) (hts _ w_352) (fun _ h9 => h9) rfl dX9_widow_96 ?_
      refine va_getN (D := G) (ci := 0) (v := .ref (bt 16)) (C := RX0) (T := TX0) (N := 19) hx hb hts iG_X0 hown hK hP 6 rfl rfl 16 (by decide) (nz_use hZ nw_115 rfl) (fun _ h9 => h9) rfl dX9_widow_99 ?_
      refine lv_iload_n hx hb dX9_widow_102 rfl (lv_at hl 1 rfl) ?_
      refine va_iald hx hb hK hP 5 0 rfl rfl (ix_in rfl (by omega) (by omega)) dX9_widow_103 ?_
      refine lv_topi (fun v20 ev20 => ?_)
      obtain ⟨ia21, ib22⟩ := ai_get ha_t_f16 rfl (by omega) (by omega) ev20
      exact hret _ _ _ _ v20 () (hP.sub (ws' := [(h0, oX9 b), (b 1, oX0 bt t_lines t_span t_rule t_odds t_wide t_high t_creeks t_houses t_widows t_acts), (bt 12, .inl (cI, 7, .inl t_f12)), (bt 13, .inl (cI, 7, .inl t_f13)), (bt 14, .inl (cI, 7, .inl t_f14)), (bt 15, .inl (cI, 7, .inl t_f15)), (bt 16, .inl (cI, 7, .inl t_f16))]) [0, 6, 1, 2, 3, 4, 5] rfl) (hD.sub (ws' := [(h0, oX9 b), (b 1, oX0 bt t_lines t_span t_rule t_odds t_wide t_high t_creeks t_houses t_widows t_acts), (bt 12, .inl (cI, 7, .inl t_f12)), (bt 13, .inl (cI, 7, .inl t_f13)), (bt 14, .inl (cI, 7, .inl t_f14)), (bt 15, .inl (cI, 7, .inl t_f15)), (bt 16, .inl (cI, 7, .inl t_f16))]) [0, 6, 1, 2, 3, 4, 5] rfl rfl) hS dX9_widow_104 trivial
  · skip
    refine lv_if_ne (tgt := 15) hx hb dX9_widow_9 (by decide) (fun c23 => absurd (by decide) c23) (fun c23 => ?_)
    refine lv_bipush (v := (-2)) hx hb dX9_widow_12 (by decide) ?_
    exact hret _ _ _ _ (-2) () (hP.sub (ws' := [(h0, oX9 b), (b 1, oX0 bt t_lines t_span t_rule t_odds t_wide t_high t_creeks t_houses t_widows t_acts), (bt 12, .inl (cI, 7, .inl t_f12)), (bt 13, .inl (cI, 7, .inl t_f13)), (bt 14, .inl (cI, 7, .inl t_f14)), (bt 15, .inl (cI, 7, .inl t_f15)), (bt 16, .inl (cI, 7, .inl t_f16))]) [0, 6, 1, 2, 3, 4, 5] rfl) (hD.sub (ws' := [(h0, oX9 b), (b 1, oX0 bt t_lines t_span t_rule t_odds t_wide t_high t_creeks t_houses t_widows t_acts), (bt 12, .inl (cI, 7, .inl t_f12)), (bt 13, .inl (cI, 7, .inl t_f13)), (bt 14, .inl (cI, 7, .inl t_f14)), (bt 15, .inl (cI, 7, .inl t_f15)), (bt 16, .inl (cI, 7, .inl t_f16))]) [0, 6, 1, 2, 3, 4, 5] rfl rfl) hS dX9_widow_14 trivial
set_option maxHeartbeats 4000000 in
set_option maxRecDepth 100000 in
theorem f_X9_grief (l : Launch) (G : va_G) (cI cJ cZ cB cQ : ClassId) (sz : Nat) (h0 : Nat) (p0 : Int32) (p1 : Int32) (b : Nat → Nat) (bt : Nat → Nat) (t_lines : Int32) (t_span : Int32) (t_rule : Int32) (t_odds : Int32) (t_wide : Int32) (t_high : Int32) (t_creeks : Int32) (t_houses : Int32) (t_widows : Int32) (t_acts : Int32) (t_f16 : Nat → Int32) (t_f17 : Nat → Int32) (hl_t_span : 0 ≤ t_span.toInt) (hh_t_span : t_span.toInt ≤ 12) (hl_t_rule : 0 ≤ t_rule.toInt) (hh_t_rule : t_rule.toInt ≤ 3) (hl_t_odds : 0 ≤ t_odds.toInt) (hh_t_odds : t_odds.toInt ≤ 10) (hl_t_wide : 0 ≤ t_wide.toInt) (hh_t_wide : t_wide.toInt ≤ 8) (hl_t_high : 0 ≤ t_high.toInt) (hh_t_high : t_high.toInt ≤ 8) (hl_t_creeks : 0 ≤ t_creeks.toInt) (hh_t_creeks : t_creeks.toInt ≤ 12) (hl_t_houses : 0 ≤ t_houses.toInt) (hh_t_houses : t_houses.toInt ≤ 6) (hl_t_widows : 0 ≤ t_widows.toInt) (hh_t_widows : t_widows.toInt ≤ 7) (hl_t_acts : 0 ≤ t_acts.toInt) (hh_t_acts : t_acts.toInt ≤ 30) (ha_t_f16 : ai t_f16 7 (-2147483648) 8) : CI l yX9_grief (wl_ yX9_grief cX9_grief 3 (some .int)) ({ frames := 1, cells := 0, slots := 0, locals := 22 } : Room) G (TY cI cJ cZ cB cQ) [.ref h0, .int p0, .int p1] [(h0, oX9 b), (b 1, oX0 bt t_lines t_span t_rule t_odds t_wide t_high t_creeks t_houses t_widows t_acts), (bt 16, .inl (cI, 7, .inl t_f16)), (bt 17, .inl (cI, 56, .inl t_f17))] sz (fun (r : Int32) (u : Unit) => True) (fun _ : Unit => [(h0, oX9 b), (b 1, oX0 bt t_lines t_span t_rule t_odds t_wide t_high t_creeks t_houses t_widows t_acts), (bt 16, .inl (cI, 7, .inl t_f16)), (bt 17, .inl (cI, 56, .inl t_f17))]) 0 0 := by
  refine CI.go (cc := cX9_grief) (maxL := 3) (ret := (some .int)) (by decide) rfl (Nat.le_of_ble_eq_true rfl) ?_
  intro p e s m below meth c A ls Q hBd hret
  obtain ⟨hx, hb, hr, hml, hts, hown, hlk, hnm, hP, hK, hD, hA, hZ, hl⟩ := hBd
  have hown : s.vm.findClass RX9 = some m.cls := hown
  have hl : lv_has ls 3 [(0, .ref h0), (1, .int p0), (2, .int p1)] := hl
  have hS : va_S A s.heap s.heap [] := va_S.rf
  refine lv_aload_n hx hb dX9_grief_0 rfl (lv_at hl 0 rfl) ?_
  refine va_get (D := G) (ci := 9) (v := .ref (b 1)) (C := RX9) (T := TX9) (N := 11) hx hb hts iG_X9 hown hK hP 0 rfl rfl 1 (by decide) (hts _ w_352) (fun _ h9 => h9) rfl dX9_grief_1 ?_
  refine lv_iload_n hx hb dX9_grief_4 rfl (lv_at hl 1 rfl) ?_
  obtain ⟨v1, ev1⟩ : ∃ y : Int64, p0.toInt64 = y := ⟨_, rfl⟩
  have tv1 : v1.toInt = p0.toInt := ti_wide rfl ev1
  refine lv_i2l (v := v1) hx hb dX9_grief_5 ev1 ?_
  refine k_i (wc := [(b 1, oX0 bt t_lines t_span t_rule t_odds t_wide t_high t_creeks t_houses t_widows t_acts)]) (wr := [(h0, oX9 b), (bt 16, .inl (cI, 7, .inl t_f16)), (bt 17, .inl (cI, 56, .inl t_f17))]) hP hD hS hA [1] [0, 2, 3] rfl rfl rfl (by decide) (va_runVN (As := [.long v1]) (rest := []) ⟨hx, hb, hml, hown, hts⟩ (f_X0_hasWidow l G cI cJ cZ cB cQ _ (b 1) v1 p0.toInt bt t_lines t_span t_rule t_odds t_wide t_high t_creeks t_houses t_widows t_acts tv1 hl_t_span hh_t_span hl_t_rule hh_t_rule hl_t_odds hh_t_odds hl_t_wide hh_t_wide hl_t_high hh_t_high hl_t_creeks hh_t_creeks hl_t_houses hh_t_houses hl_t_widows hh_t_widows hl_t_acts hh_t_acts) ⟨va_cnB (host := "WidowRoads") 1 hts (gW w_671) rfl rfl rfl (nz_nw hZ nw_668 rfl) (hts _ w_4) hd_X0_hasWidow ⟨Nat.le_of_ble_eq_true rfl, Nat.le_of_ble_eq_true rfl⟩, (hts _ w_670), (hts _ wp_35)⟩ (mV hK hZ hP hD [1] rfl rfl [.long v1] 1 0 rfl rfl) rfl rfl hl.1 rfl (lv_room (Nat.le_of_ble_eq_true rfl)) dX9_grief_6 ⟨Nat.le_of_ble_eq_true rfl, Nat.le_of_ble_eq_true rfl⟩) (fun r2 u3 H locs hw4 hP hD hS => ?_)
  try dsimp only at hw4
  have hP : va_P G vwCl [(h0, oX9 b), (bt 16, .inl (cI, 7, .inl t_f16)), (bt 17, .inl (cI, 56, .inl t_f17)), (b 1, oX0 bt t_lines t_span t_rule t_odds t_wide t_high t_creeks t_houses t_widows t_acts)] H := hP
  have hD : va_D A [(h0, oX9 b), (bt 16, .inl (cI, 7, .inl t_f16)), (bt 17, .inl (cI, 56, .inl t_f17)), (b 1, oX0 bt t_lines t_span t_rule t_odds t_wide t_high t_creeks t_houses t_widows t_acts)] := hD
  rcases hw4 with ⟨rfl, a6, a7⟩ | ⟨rfl, a8⟩
  · skip
    refine lv_if_eq (tgt := 16) hx hb dX9_grief_9 (by decide) (fun c9 => absurd c9 (by decide)) (fun c9 => ?_)
    refine lv_iload_n hx hb dX9_grief_12 rfl (lv_at hl 2 rfl) ?_
    refine lv_if_ge (tgt := 19) hx hb dX9_grief_13 (by decide) (fun c10 => ?_) (fun c10 => ?_)
    · have c10 := i_le ki_0 rfl c10
      refine lv_iload_n hx hb dX9_grief_19 rfl (lv_at hl 2 rfl) ?_
      refine lv_aload_n hx hb dX9_grief_20 rfl (lv_at hl 0 rfl) ?_
      refine va_get (D := G) (ci := 9) (v := .ref (b 1)) (C := RX9) (T := TX9) (N := 11) hx hb hts iG_X9 hown hK hP 0 rfl rfl 1 (by decide) (hts _ w_352) (fun _ h9 => h9) rfl dX9_grief_21 ?_
      refine va_getN (D := G) (ci := 0) (v := .ref (bt 16)) (C := RX0) (T := TX0) (N := 19) hx hb hts iG_X0 hown hK hP 3 rfl rfl 16 (by decide) (nz_use hZ nw_115 rfl) (fun _ h9 => h9) rfl dX9_grief_24 ?_
      refine lv_iload_n hx hb dX9_grief_27 rfl (lv_at hl 1 rfl) ?_
      refine va_iald hx hb hK hP 1 0 rfl rfl (ix_in rfl (by omega) (by omega)) dX9_grief_28 ?_
      refine lv_topi (fun v11 ev11 => ?_)
      obtain ⟨ia12, ib13⟩ := ai_get ha_t_f16 rfl (by omega) (by omega) ev11
      refine lv_icmp_ge (tgt := 49) hx hb dX9_grief_29 (by decide) (fun c14 => ?_) (fun c14 => ?_)
      · have c14 := i_le rfl rfl c14
        refine lv_iconst (v := (-1)) hx hb dX9_grief_49 (by decide) ?_
        exact hret _ _ _ _ (-1) () (hP.sub (ws' := [(h0, oX9 b), (b 1, oX0 bt t_lines t_span t_rule t_odds t_wide t_high t_creeks t_houses t_widows t_acts), (bt 16, .inl (cI, 7, .inl t_f16)), (bt 17, .inl (cI, 56, .inl t_f17))]) [0, 3, 1, 2] rfl) (hD.sub (ws' := [(h0, oX9 b), (b 1, oX0 bt t_lines t_span t_rule t_odds t_wide t_high t_creeks t_houses t_widows t_acts), (bt 16, .inl (cI, 7, .inl t_f16)), (bt 17, .inl (cI, 56, .inl t_f17))]) [0, 3, 1, 2] rfl rfl) hS dX9_grief_50 trivial
      · have c14 := i_nle rfl rfl c14
        refine lv_aload_n hx hb dX9_grief_32 rfl (lv_at hl 0 rfl) ?_
        refine va_get (D := G) (ci := 9) (v := .ref (b 1)) (C := RX9) (T := TX9) (N := 11) hx hb hts iG_X9 hown hK hP 0 rfl rfl 1 (by decide) (hts _ w_352) (fun _ h9 => h9) rfl dX9_grief_33 ?_
        refine va_getN (D := G) (ci := 0) (v := .ref (bt 17)) (C := RX0) (T := TX0) (N := 19) hx hb hts iG_X0 hown hK hP 3 rfl rfl 17 (by decide) (nz_use hZ nw_119 rfl) (fun _ h9 => h9) rfl dX9_grief_36 ?_
        refine lv_iload_n hx hb dX9_grief_39 rfl (lv_at hl 1 rfl) ?_
        refine lv_bipush (v := 8) hx hb dX9_grief_40 (by decide) ?_
        refine lv_imul hx hb dX9_grief_42 ?_
        refine lv_topi (fun v15 ev15 => ?_)
        have tv15 : v15.toInt = p0.toInt * 8 := ti_mul rfl ki_8 ev15 (by omega) (by omega)
        refine lv_iload_n hx hb dX9_grief_43 rfl (lv_at hl 2 rfl) ?_
        refine lv_iadd hx hb dX9_grief_44 ?_
        refine lv_topi (fun v16 ev16 => ?_)
        have tv16 : v16.toInt = p0.toInt * 8 + p1.toInt := ti_add tv15 rfl ev16 (by omega) (by omega)
        refine va_iald hx hb hK hP 2 0 rfl rfl (ix_in tv16 (by omega) (by omega)) dX9_grief_45 ?_
        refine lv_topi (fun v17 ev17 => ?_)
        refine lv_goto (tgt := 50) hx hb dX9_grief_46 (by decide) ?_
        exact hret _ _ _ _ v17 () (hP.sub (ws' := [(h0, oX9 b), (b 1, oX0 bt t_lines t_span t_rule t_odds t_wide t_high t_creeks t_houses t_widows t_acts), (bt 16, .inl (cI, 7, .inl t_f16)), (bt 17, .inl (cI, 56, .inl t_f17))]) [0, 3, 1, 2] rfl) (hD.sub (ws' := [(h0, oX9 b), (b 1, oX0 bt t_lines t_span t_rule t_odds t_wide t_high t_creeks t_houses t_widows t_acts), (bt 16, .inl (cI, 7, .inl t_f16)), (bt 17, .inl (cI, 56, .inl t_f17))]) [0, 3, 1, 2] rfl rfl) hS dX9_grief_50 trivial
    · have c10 := i_nle ki_0 rfl c10
      refine lv_bipush (v := (-2)) hx hb dX9_grief_16 (by decide) ?_
      exact hret _ _ _ _ (-2) () (hP.sub (ws' := [(h0, oX9 b), (b 1, oX0 bt t_lines t_span t_rule t_odds t_wide t_high t_creeks t_houses t_widows t_acts), (bt 16, .inl (cI, 7, .inl t_f16)), (bt 17, .inl (cI, 56, .inl t_f17))]) [0, 3, 1, 2] rfl) (hD.sub (ws' := [(h0, oX9 b), (b 1, oX0 bt t_lines t_span t_rule t_odds t_wide t_high t_creeks t_houses t_widows t_acts), (bt 16, .inl (cI, 7, .inl t_f16)), (bt 17, .inl (cI, 56, .inl t_f17))]) [0, 3, 1, 2] rfl rfl) hS dX9_grief_18 trivial
  · skip
    refine lv_if_eq (tgt := 16) hx hb dX9_grief_9 (by decide) (fun c18 => ?_) (fun c18 => absurd (by decide) c18)
    refine lv_bipush (v := (-2)) hx hb dX9_grief_16 (by decide) ?_
    exact hret _ _ _ _ (-2) () (hP.sub (ws' := [(h0, oX9 b), (b 1, oX0 bt t_lines t_span t_rule t_odds t_wide t_high t_creeks t_houses t_widows t_acts), (bt 16, .inl (cI, 7, .inl t_f16)), (bt 17, .inl (cI, 56, .inl t_f17))]) [0, 3, 1, 2] rfl) (hD.sub (ws' := [(h0, oX9 b), (b 1, oX0 bt t_lines t_span t_rule t_odds t_wide t_high t_creeks t_houses t_widows t_acts), (bt 16, .inl (cI, 7, .inl t_f16)), (bt 17, .inl (cI, 56, .inl t_f17))]) [0, 3, 1, 2] rfl rfl) hS dX9_grief_18 trivial
set_option maxHeartbeats 4000000 in
set_option maxRecDepth 100000 in
theorem f_X9_at (l : Launch) (G : va_G) (cI cJ cZ cB cQ : ClassId) (sz : Nat) (h0 : Nat) (p0 : Int32) (p1 : Int32) (b : Nat → Nat) (bt : Nat → Nat) (t_lines : Int32) (t_span : Int32) (t_rule : Int32) (t_odds : Int32) (t_wide : Int32) (t_high : Int32) (t_creeks : Int32) (t_houses : Int32) (t_widows : Int32) (t_acts : Int32) (bn : Nat → Nat) (n_field : Int64) (n_houses : Int32) (n_f0 : Nat → Int32) (n_f1 : Nat → Int32) (hl_t_span : 0 ≤ t_span.toInt) (hh_t_span : t_span.toInt ≤ 12) (hl_t_rule : 0 ≤ t_rule.toInt) (hh_t_rule : t_rule.toInt ≤ 3) (hl_t_odds : 0 ≤ t_odds.toInt) (hh_t_odds : t_odds.toInt ≤ 10) (hl_t_wide : 0 ≤ t_wide.toInt) (hh_t_wide : t_wide.toInt ≤ 8) (hl_t_high : 0 ≤ t_high.toInt) (hh_t_high : t_high.toInt ≤ 8) (hl_t_creeks : 0 ≤ t_creeks.toInt) (hh_t_creeks : t_creeks.toInt ≤ 12) (hl_t_houses : 0 ≤ t_houses.toInt) (hh_t_houses : t_houses.toInt ≤ 6) (hl_t_widows : 0 ≤ t_widows.toInt) (hh_t_widows : t_widows.toInt ≤ 7) (hl_t_acts : 0 ≤ t_acts.toInt) (hh_t_acts : t_acts.toInt ≤ 30) (hl_n_houses : 0 ≤ n_houses.toInt) (hh_n_houses : n_houses.toInt ≤ 6) (ha_n_f1 : ai n_f1 7 (-1) 40) : CI l yX9_at (wl_ yX9_at cX9_at 3 (some .int)) ({ frames := 1, cells := 0, slots := 0, locals := 22 } : Room) G (TY cI cJ cZ cB cQ) [.ref h0, .int p0, .int p1] [(h0, oX9 b), (b 1, oX0 bt t_lines t_span t_rule t_odds t_wide t_high t_creeks t_houses t_widows t_acts), (b 4, oX6 bn n_field n_houses), (bn 0, .inl (cI, 287, .inl n_f0)), (bn 1, .inl (cI, 7, .inl n_f1))] sz (fun (r : Int32) (u : Unit) => True) (fun _ : Unit => [(h0, oX9 b), (b 1, oX0 bt t_lines t_span t_rule t_odds t_wide t_high t_creeks t_houses t_widows t_acts), (b 4, oX6 bn n_field n_houses), (bn 0, .inl (cI, 287, .inl n_f0)), (bn 1, .inl (cI, 7, .inl n_f1))]) 0 0 := by
  refine CI.go (cc := cX9_at) (maxL := 3) (ret := (some .int)) (by decide) rfl (Nat.le_of_ble_eq_true rfl) ?_
  intro p e s m below meth c A ls Q hBd hret
  obtain ⟨hx, hb, hr, hml, hts, hown, hlk, hnm, hP, hK, hD, hA, hZ, hl⟩ := hBd
  have hown : s.vm.findClass RX9 = some m.cls := hown
  have hl : lv_has ls 3 [(0, .ref h0), (1, .int p0), (2, .int p1)] := hl
  have hS : va_S A s.heap s.heap [] := va_S.rf
  refine lv_aload_n hx hb dX9_at_0 rfl (lv_at hl 0 rfl) ?_
  refine va_get (D := G) (ci := 9) (v := .ref (b 1)) (C := RX9) (T := TX9) (N := 11) hx hb hts iG_X9 hown hK hP 0 rfl rfl 1 (by decide) (hts _ w_352) (fun _ h9 => h9) rfl dX9_at_1 ?_
  refine lv_iload_n hx hb dX9_at_4 rfl (lv_at hl 1 rfl) ?_
  obtain ⟨v1, ev1⟩ : ∃ y : Int64, p0.toInt64 = y := ⟨_, rfl⟩
  have tv1 : v1.toInt = p0.toInt := ti_wide rfl ev1
  refine lv_i2l (v := v1) hx hb dX9_at_5 ev1 ?_
  refine k_i (wc := [(b 1, oX0 bt t_lines t_span t_rule t_odds t_wide t_high t_creeks t_houses t_widows t_acts)]) (wr := [(h0, oX9 b), (b 4, oX6 bn n_field n_houses), (bn 0, .inl (cI, 287, .inl n_f0)), (bn 1, .inl (cI, 7, .inl n_f1))]) hP hD hS hA [1] [0, 2, 3, 4] rfl rfl rfl (by decide) (va_runVN (As := [.long v1]) (rest := []) ⟨hx, hb, hml, hown, hts⟩ (f_X0_hasWidow l G cI cJ cZ cB cQ _ (b 1) v1 p0.toInt bt t_lines t_span t_rule t_odds t_wide t_high t_creeks t_houses t_widows t_acts tv1 hl_t_span hh_t_span hl_t_rule hh_t_rule hl_t_odds hh_t_odds hl_t_wide hh_t_wide hl_t_high hh_t_high hl_t_creeks hh_t_creeks hl_t_houses hh_t_houses hl_t_widows hh_t_widows hl_t_acts hh_t_acts) ⟨va_cnB (host := "WidowRoads") 1 hts (gW w_671) rfl rfl rfl (nz_nw hZ nw_668 rfl) (hts _ w_4) hd_X0_hasWidow ⟨Nat.le_of_ble_eq_true rfl, Nat.le_of_ble_eq_true rfl⟩, (hts _ w_670), (hts _ wp_35)⟩ (mV hK hZ hP hD [1] rfl rfl [.long v1] 1 0 rfl rfl) rfl rfl hl.1 rfl (lv_room (Nat.le_of_ble_eq_true rfl)) dX9_at_6 ⟨Nat.le_of_ble_eq_true rfl, Nat.le_of_ble_eq_true rfl⟩) (fun r2 u3 H locs hw4 hP hD hS => ?_)
  try dsimp only at hw4
  have hP : va_P G vwCl [(h0, oX9 b), (b 4, oX6 bn n_field n_houses), (bn 0, .inl (cI, 287, .inl n_f0)), (bn 1, .inl (cI, 7, .inl n_f1)), (b 1, oX0 bt t_lines t_span t_rule t_odds t_wide t_high t_creeks t_houses t_widows t_acts)] H := hP
  have hD : va_D A [(h0, oX9 b), (b 4, oX6 bn n_field n_houses), (bn 0, .inl (cI, 287, .inl n_f0)), (bn 1, .inl (cI, 7, .inl n_f1)), (b 1, oX0 bt t_lines t_span t_rule t_odds t_wide t_high t_creeks t_houses t_widows t_acts)] := hD
  rcases hw4 with ⟨rfl, a6, a7⟩ | ⟨rfl, a8⟩
  · skip
    refine lv_if_eq (tgt := 20) hx hb dX9_at_9 (by decide) (fun c9 => absurd c9 (by decide)) (fun c9 => ?_)
    refine lv_iload_n hx hb dX9_at_12 rfl (lv_at hl 2 rfl) ?_
    obtain ⟨v10, ev10⟩ : ∃ y : Int64, p1.toInt64 = y := ⟨_, rfl⟩
    have tv10 : v10.toInt = p1.toInt := ti_wide rfl ev10
    refine lv_i2l (v := v10) hx hb dX9_at_13 ev10 ?_
    refine k_i (wc := []) (wr := [(h0, oX9 b), (b 4, oX6 bn n_field n_houses), (bn 0, .inl (cI, 287, .inl n_f0)), (bn 1, .inl (cI, 7, .inl n_f1)), (b 1, oX0 bt t_lines t_span t_rule t_odds t_wide t_high t_creeks t_houses t_widows t_acts)]) hP hD hS hA [] [0, 1, 2, 3, 4] rfl rfl rfl (by decide) (va_runS (As := [.long v10]) (rest := []) ⟨hx, hb, hml, hown, hts⟩ (f_X9_isStep l G cI cJ cZ cB cQ _ v10 p1.toInt tv10) (va_cwS 1 hts (gS w_683 w_684 w_1 w_685) rfl rfl rfl hd_X9_isStep ⟨Nat.le_of_ble_eq_true rfl, Nat.le_of_ble_eq_true rfl⟩) (mS hK hZ hP hD [] rfl rfl [.long v10]) rfl rfl hl.1 rfl (lv_room (Nat.le_of_ble_eq_true rfl)) dX9_at_14 ⟨Nat.le_of_ble_eq_true rfl, Nat.le_of_ble_eq_true rfl⟩) (fun r11 u12 H locs hw13 hP hD hS => ?_)
    try dsimp only at hw13
    have hP : va_P G vwCl [(h0, oX9 b), (b 4, oX6 bn n_field n_houses), (bn 0, .inl (cI, 287, .inl n_f0)), (bn 1, .inl (cI, 7, .inl n_f1)), (b 1, oX0 bt t_lines t_span t_rule t_odds t_wide t_high t_creeks t_houses t_widows t_acts)] H := hP
    have hD : va_D A [(h0, oX9 b), (b 4, oX6 bn n_field n_houses), (bn 0, .inl (cI, 287, .inl n_f0)), (bn 1, .inl (cI, 7, .inl n_f1)), (b 1, oX0 bt t_lines t_span t_rule t_odds t_wide t_high t_creeks t_houses t_widows t_acts)] := hD
    rcases hw13 with ⟨rfl, a15, a16⟩ | ⟨rfl, a17⟩
    · skip
      refine lv_if_ne (tgt := 23) hx hb dX9_at_17 (by decide) (fun c18 => ?_) (fun c18 => absurd c18 (by decide))
      refine lv_aload_n hx hb dX9_at_23 rfl (lv_at hl 0 rfl) ?_
      refine va_get (D := G) (ci := 9) (v := .ref (b 4)) (C := RX9) (T := TX9) (N := 11) hx hb hts iG_X9 hown hK hP 0 rfl rfl 4 (by decide) (hts _ w_355) (fun _ h9 => h9) rfl dX9_at_24 ?_
      refine lv_iload_n hx hb dX9_at_27 rfl (lv_at hl 1 rfl) ?_
      refine lv_iload_n hx hb dX9_at_28 rfl (lv_at hl 2 rfl) ?_
      refine k_i (wc := [(b 4, oX6 bn n_field n_houses), (bn 0, .inl (cI, 287, .inl n_f0)), (bn 1, .inl (cI, 7, .inl n_f1))]) (wr := [(h0, oX9 b), (b 1, oX0 bt t_lines t_span t_rule t_odds t_wide t_high t_creeks t_houses t_widows t_acts)]) hP hD hS hA [1, 2, 3] [0, 4] rfl rfl rfl (by decide) (va_runVN (As := [.int p0, .int p1]) (rest := []) ⟨hx, hb, hml, hown, hts⟩ (f_X6_spotAt l G cI cJ cZ cB cQ _ (b 4) p0 p1 bn n_field n_houses n_f0 n_f1 (by omega) (by omega) (by omega) hl_n_houses hh_n_houses ha_n_f1) ⟨va_cnB (host := "WidowRoads") 2 hts (gW w_690) rfl rfl rfl (nz_nw hZ nw_687 rfl) (hts _ w_6) hd_X6_spotAt ⟨Nat.le_of_ble_eq_true rfl, Nat.le_of_ble_eq_true rfl⟩, (hts _ w_689), (hts _ wp_36)⟩ (mV hK hZ hP hD [1, 2, 3] rfl rfl [.int p0, .int p1] 1 6 rfl rfl) rfl rfl hl.1 rfl (lv_room (Nat.le_of_ble_eq_true rfl)) dX9_at_29 ⟨Nat.le_of_ble_eq_true rfl, Nat.le_of_ble_eq_true rfl⟩) (fun r19 u20 H locs hw21 hP hD hS => ?_)
      try dsimp only at hw21
      have hP : va_P G vwCl [(h0, oX9 b), (b 1, oX0 bt t_lines t_span t_rule t_odds t_wide t_high t_creeks t_houses t_widows t_acts), (b 4, oX6 bn n_field n_houses), (bn 0, .inl (cI, 287, .inl n_f0)), (bn 1, .inl (cI, 7, .inl n_f1))] H := hP
      have hD : va_D A [(h0, oX9 b), (b 1, oX0 bt t_lines t_span t_rule t_odds t_wide t_high t_creeks t_houses t_widows t_acts), (b 4, oX6 bn n_field n_houses), (bn 0, .inl (cI, 287, .inl n_f0)), (bn 1, .inl (cI, 7, .inl n_f1))] := hD
      refine k_i (wc := []) (wr := [(h0, oX9 b), (b 1, oX0 bt t_lines t_span t_rule t_odds t_wide t_high t_creeks t_houses t_widows t_acts), (b 4, oX6 bn n_field n_houses), (bn 0, .inl (cI, 287, .inl n_f0)), (bn 1, .inl (cI, 7, .inl n_f1))]) hP hD hS hA [] [0, 1, 2, 3, 4] rfl rfl rfl (by decide) (va_runS (As := [.int r19]) (rest := []) ⟨hx, hb, hml, hown, hts⟩ (f_X9_cellOf l G cI cJ cZ cB cQ _ r19) (va_cwS 1 hts (gS w_672 w_673 w_1 w_674) rfl rfl rfl hd_X9_cellOf ⟨Nat.le_of_ble_eq_true rfl, Nat.le_of_ble_eq_true rfl⟩) (mS hK hZ hP hD [] rfl rfl [.int r19]) rfl rfl hl.1 rfl (lv_room (Nat.le_of_ble_eq_true rfl)) dX9_at_32 ⟨Nat.le_of_ble_eq_true rfl, Nat.le_of_ble_eq_true rfl⟩) (fun r22 u23 H locs hw24 hP hD hS => ?_)
      try dsimp only at hw24
      have hP : va_P G vwCl [(h0, oX9 b), (b 1, oX0 bt t_lines t_span t_rule t_odds t_wide t_high t_creeks t_houses t_widows t_acts), (b 4, oX6 bn n_field n_houses), (bn 0, .inl (cI, 287, .inl n_f0)), (bn 1, .inl (cI, 7, .inl n_f1))] H := hP
      have hD : va_D A [(h0, oX9 b), (b 1, oX0 bt t_lines t_span t_rule t_odds t_wide t_high t_creeks t_houses t_widows t_acts), (b 4, oX6 bn n_field n_houses), (bn 0, .inl (cI, 287, .inl n_f0)), (bn 1, .inl (cI, 7, .inl n_f1))] := hD
      exact hret _ _ _ _ r22 () hP hD hS dX9_at_35 trivial
    · skip
      refine lv_if_ne (tgt := 23) hx hb dX9_at_17 (by decide) (fun c25 => absurd (by decide) c25) (fun c25 => ?_)
      refine lv_bipush (v := (-2)) hx hb dX9_at_20 (by decide) ?_
      exact hret _ _ _ _ (-2) () (hP.sub (ws' := [(h0, oX9 b), (b 1, oX0 bt t_lines t_span t_rule t_odds t_wide t_high t_creeks t_houses t_widows t_acts), (b 4, oX6 bn n_field n_houses), (bn 0, .inl (cI, 287, .inl n_f0)), (bn 1, .inl (cI, 7, .inl n_f1))]) [0, 4, 1, 2, 3] rfl) (hD.sub (ws' := [(h0, oX9 b), (b 1, oX0 bt t_lines t_span t_rule t_odds t_wide t_high t_creeks t_houses t_widows t_acts), (b 4, oX6 bn n_field n_houses), (bn 0, .inl (cI, 287, .inl n_f0)), (bn 1, .inl (cI, 7, .inl n_f1))]) [0, 4, 1, 2, 3] rfl rfl) hS dX9_at_22 trivial
  · skip
    refine lv_if_eq (tgt := 20) hx hb dX9_at_9 (by decide) (fun c26 => ?_) (fun c26 => absurd (by decide) c26)
    refine lv_bipush (v := (-2)) hx hb dX9_at_20 (by decide) ?_
    exact hret _ _ _ _ (-2) () (hP.sub (ws' := [(h0, oX9 b), (b 1, oX0 bt t_lines t_span t_rule t_odds t_wide t_high t_creeks t_houses t_widows t_acts), (b 4, oX6 bn n_field n_houses), (bn 0, .inl (cI, 287, .inl n_f0)), (bn 1, .inl (cI, 7, .inl n_f1))]) [0, 4, 1, 2, 3] rfl) (hD.sub (ws' := [(h0, oX9 b), (b 1, oX0 bt t_lines t_span t_rule t_odds t_wide t_high t_creeks t_houses t_widows t_acts), (b 4, oX6 bn n_field n_houses), (bn 0, .inl (cI, 287, .inl n_f0)), (bn 1, .inl (cI, 7, .inl n_f1))]) [0, 4, 1, 2, 3] rfl rfl) hS dX9_at_22 trivial
set_option maxHeartbeats 4000000 in
set_option maxRecDepth 100000 in
theorem f_X9_steps (l : Launch) (G : va_G) (cI cJ cZ cB cQ : ClassId) (sz : Nat) (h0 : Nat) (p0 : Int32) (b : Nat → Nat) (bt : Nat → Nat) (t_lines : Int32) (t_span : Int32) (t_rule : Int32) (t_odds : Int32) (t_wide : Int32) (t_high : Int32) (t_creeks : Int32) (t_houses : Int32) (t_widows : Int32) (t_acts : Int32) (bn : Nat → Nat) (n_field : Int64) (n_houses : Int32) (n_f1 : Nat → Int32) (hl_t_span : 0 ≤ t_span.toInt) (hh_t_span : t_span.toInt ≤ 12) (hl_t_rule : 0 ≤ t_rule.toInt) (hh_t_rule : t_rule.toInt ≤ 3) (hl_t_odds : 0 ≤ t_odds.toInt) (hh_t_odds : t_odds.toInt ≤ 10) (hl_t_wide : 0 ≤ t_wide.toInt) (hh_t_wide : t_wide.toInt ≤ 8) (hl_t_high : 0 ≤ t_high.toInt) (hh_t_high : t_high.toInt ≤ 8) (hl_t_creeks : 0 ≤ t_creeks.toInt) (hh_t_creeks : t_creeks.toInt ≤ 12) (hl_t_houses : 0 ≤ t_houses.toInt) (hh_t_houses : t_houses.toInt ≤ 6) (hl_t_widows : 0 ≤ t_widows.toInt) (hh_t_widows : t_widows.toInt ≤ 7) (hl_t_acts : 0 ≤ t_acts.toInt) (hh_t_acts : t_acts.toInt ≤ 30) (hl_n_houses : 0 ≤ n_houses.toInt) (hh_n_houses : n_houses.toInt ≤ 6) (ha_n_f1 : ai n_f1 7 (-1) 40) : CI l yX9_steps (wl_ yX9_steps cX9_steps 2 (some .int)) ({ frames := 1, cells := 0, slots := 0, locals := 22 } : Room) G (TY cI cJ cZ cB cQ) [.ref h0, .int p0] [(h0, oX9 b), (b 1, oX0 bt t_lines t_span t_rule t_odds t_wide t_high t_creeks t_houses t_widows t_acts), (b 4, oX6 bn n_field n_houses), (bn 1, .inl (cI, 7, .inl n_f1))] sz (fun (r : Int32) (u : Unit) => True) (fun _ : Unit => [(h0, oX9 b), (b 1, oX0 bt t_lines t_span t_rule t_odds t_wide t_high t_creeks t_houses t_widows t_acts), (b 4, oX6 bn n_field n_houses), (bn 1, .inl (cI, 7, .inl n_f1))]) 0 0 := by
  refine CI.go (cc := cX9_steps) (maxL := 2) (ret := (some .int)) (by decide) rfl (Nat.le_of_ble_eq_true rfl) ?_
  intro p e s m below meth c A ls Q hBd hret
  obtain ⟨hx, hb, hr, hml, hts, hown, hlk, hnm, hP, hK, hD, hA, hZ, hl⟩ := hBd
  have hown : s.vm.findClass RX9 = some m.cls := hown
  have hl : lv_has ls 2 [(0, .ref h0), (1, .int p0)] := hl
  have hS : va_S A s.heap s.heap [] := va_S.rf
  refine lv_aload_n hx hb dX9_steps_0 rfl (lv_at hl 0 rfl) ?_
  refine va_get (D := G) (ci := 9) (v := .ref (b 1)) (C := RX9) (T := TX9) (N := 11) hx hb hts iG_X9 hown hK hP 0 rfl rfl 1 (by decide) (hts _ w_352) (fun _ h9 => h9) rfl dX9_steps_1 ?_
  refine lv_iload_n hx hb dX9_steps_4 rfl (lv_at hl 1 rfl) ?_
  obtain ⟨v1, ev1⟩ : ∃ y : Int64, p0.toInt64 = y := ⟨_, rfl⟩
  have tv1 : v1.toInt = p0.toInt := ti_wide rfl ev1
  refine lv_i2l (v := v1) hx hb dX9_steps_5 ev1 ?_
  refine k_i (wc := [(b 1, oX0 bt t_lines t_span t_rule t_odds t_wide t_high t_creeks t_houses t_widows t_acts)]) (wr := [(h0, oX9 b), (b 4, oX6 bn n_field n_houses), (bn 1, .inl (cI, 7, .inl n_f1))]) hP hD hS hA [1] [0, 2, 3] rfl rfl rfl (by decide) (va_runVN (As := [.long v1]) (rest := []) ⟨hx, hb, hml, hown, hts⟩ (f_X0_hasWidow l G cI cJ cZ cB cQ _ (b 1) v1 p0.toInt bt t_lines t_span t_rule t_odds t_wide t_high t_creeks t_houses t_widows t_acts tv1 hl_t_span hh_t_span hl_t_rule hh_t_rule hl_t_odds hh_t_odds hl_t_wide hh_t_wide hl_t_high hh_t_high hl_t_creeks hh_t_creeks hl_t_houses hh_t_houses hl_t_widows hh_t_widows hl_t_acts hh_t_acts) ⟨va_cnB (host := "WidowRoads") 1 hts (gW w_671) rfl rfl rfl (nz_nw hZ nw_668 rfl) (hts _ w_4) hd_X0_hasWidow ⟨Nat.le_of_ble_eq_true rfl, Nat.le_of_ble_eq_true rfl⟩, (hts _ w_670), (hts _ wp_35)⟩ (mV hK hZ hP hD [1] rfl rfl [.long v1] 1 0 rfl rfl) rfl rfl hl.1 rfl (lv_room (Nat.le_of_ble_eq_true rfl)) dX9_steps_6 ⟨Nat.le_of_ble_eq_true rfl, Nat.le_of_ble_eq_true rfl⟩) (fun r2 u3 H locs hw4 hP hD hS => ?_)
  try dsimp only at hw4
  have hP : va_P G vwCl [(h0, oX9 b), (b 4, oX6 bn n_field n_houses), (bn 1, .inl (cI, 7, .inl n_f1)), (b 1, oX0 bt t_lines t_span t_rule t_odds t_wide t_high t_creeks t_houses t_widows t_acts)] H := hP
  have hD : va_D A [(h0, oX9 b), (b 4, oX6 bn n_field n_houses), (bn 1, .inl (cI, 7, .inl n_f1)), (b 1, oX0 bt t_lines t_span t_rule t_odds t_wide t_high t_creeks t_houses t_widows t_acts)] := hD
  rcases hw4 with ⟨rfl, a6, a7⟩ | ⟨rfl, a8⟩
  · skip
    refine lv_if_eq (tgt := 24) hx hb dX9_steps_9 (by decide) (fun c9 => absurd c9 (by decide)) (fun c9 => ?_)
    refine lv_aload_n hx hb dX9_steps_12 rfl (lv_at hl 0 rfl) ?_
    refine va_get (D := G) (ci := 9) (v := .ref (b 4)) (C := RX9) (T := TX9) (N := 11) hx hb hts iG_X9 hown hK hP 0 rfl rfl 4 (by decide) (hts _ w_355) (fun _ h9 => h9) rfl dX9_steps_13 ?_
    refine va_getN (D := G) (ci := 6) (v := .ref (bn 1)) (C := RX6) (T := TX6) (N := 12) hx hb hts iG_X6 hown hK hP 1 rfl rfl 1 (by decide) (nz_use hZ nw_235 rfl) (fun _ h9 => h9) rfl dX9_steps_16 ?_
    refine lv_iload_n hx hb dX9_steps_19 rfl (lv_at hl 1 rfl) ?_
    refine va_iald hx hb hK hP 2 0 rfl rfl (ix_in rfl (by omega) (by omega)) dX9_steps_20 ?_
    refine lv_topi (fun v10 ev10 => ?_)
    obtain ⟨ia11, ib12⟩ := ai_get ha_n_f1 rfl (by omega) (by omega) ev10
    refine lv_goto (tgt := 26) hx hb dX9_steps_21 (by decide) ?_
    exact hret _ _ _ _ v10 () (hP.sub (ws' := [(h0, oX9 b), (b 1, oX0 bt t_lines t_span t_rule t_odds t_wide t_high t_creeks t_houses t_widows t_acts), (b 4, oX6 bn n_field n_houses), (bn 1, .inl (cI, 7, .inl n_f1))]) [0, 3, 1, 2] rfl) (hD.sub (ws' := [(h0, oX9 b), (b 1, oX0 bt t_lines t_span t_rule t_odds t_wide t_high t_creeks t_houses t_widows t_acts), (b 4, oX6 bn n_field n_houses), (bn 1, .inl (cI, 7, .inl n_f1))]) [0, 3, 1, 2] rfl rfl) hS dX9_steps_26 trivial
  · skip
    refine lv_if_eq (tgt := 24) hx hb dX9_steps_9 (by decide) (fun c13 => ?_) (fun c13 => absurd (by decide) c13)
    refine lv_bipush (v := (-2)) hx hb dX9_steps_24 (by decide) ?_
    exact hret _ _ _ _ (-2) () (hP.sub (ws' := [(h0, oX9 b), (b 1, oX0 bt t_lines t_span t_rule t_odds t_wide t_high t_creeks t_houses t_widows t_acts), (b 4, oX6 bn n_field n_houses), (bn 1, .inl (cI, 7, .inl n_f1))]) [0, 3, 1, 2] rfl) (hD.sub (ws' := [(h0, oX9 b), (b 1, oX0 bt t_lines t_span t_rule t_odds t_wide t_high t_creeks t_houses t_widows t_acts), (b 4, oX6 bn n_field n_houses), (bn 1, .inl (cI, 7, .inl n_f1))]) [0, 3, 1, 2] rfl rfl) hS dX9_steps_26 trivial
set_option maxHeartbeats 4000000 in
set_option maxRecDepth 100000 in
theorem f_X9_stands (l : Launch) (G : va_G) (cI cJ cZ cB cQ : ClassId) (sz : Nat) (h0 : Nat) (p0 : Int32) (b : Nat → Nat) (bt : Nat → Nat) (t_lines : Int32) (t_span : Int32) (t_rule : Int32) (t_odds : Int32) (t_wide : Int32) (t_high : Int32) (t_creeks : Int32) (t_houses : Int32) (t_widows : Int32) (t_acts : Int32) (bn : Nat → Nat) (n_field : Int64) (n_houses : Int32) (n_f1 : Nat → Int32) (n_f2 : Nat → Int32) (hl_t_span : 0 ≤ t_span.toInt) (hh_t_span : t_span.toInt ≤ 12) (hl_t_rule : 0 ≤ t_rule.toInt) (hh_t_rule : t_rule.toInt ≤ 3) (hl_t_odds : 0 ≤ t_odds.toInt) (hh_t_odds : t_odds.toInt ≤ 10) (hl_t_wide : 0 ≤ t_wide.toInt) (hh_t_wide : t_wide.toInt ≤ 8) (hl_t_high : 0 ≤ t_high.toInt) (hh_t_high : t_high.toInt ≤ 8) (hl_t_creeks : 0 ≤ t_creeks.toInt) (hh_t_creeks : t_creeks.toInt ≤ 12) (hl_t_houses : 0 ≤ t_houses.toInt) (hh_t_houses : t_houses.toInt ≤ 6) (hl_t_widows : 0 ≤ t_widows.toInt) (hh_t_widows : t_widows.toInt ≤ 7) (hl_t_acts : 0 ≤ t_acts.toInt) (hh_t_acts : t_acts.toInt ≤ 30) (hl_n_houses : 0 ≤ n_houses.toInt) (hh_n_houses : n_houses.toInt ≤ 6) (ha_n_f1 : ai n_f1 7 (-1) 40) : CI l yX9_stands (wl_ yX9_stands cX9_stands 2 (some .int)) ({ frames := 1, cells := 0, slots := 0, locals := 22 } : Room) G (TY cI cJ cZ cB cQ) [.ref h0, .int p0] [(h0, oX9 b), (b 1, oX0 bt t_lines t_span t_rule t_odds t_wide t_high t_creeks t_houses t_widows t_acts), (b 4, oX6 bn n_field n_houses), (bn 1, .inl (cI, 7, .inl n_f1)), (bn 2, .inl (cI, 7, .inl n_f2))] sz (fun (r : Int32) (u : Unit) => True) (fun _ : Unit => [(h0, oX9 b), (b 1, oX0 bt t_lines t_span t_rule t_odds t_wide t_high t_creeks t_houses t_widows t_acts), (b 4, oX6 bn n_field n_houses), (bn 1, .inl (cI, 7, .inl n_f1)), (bn 2, .inl (cI, 7, .inl n_f2))]) 0 0 := by
  refine CI.go (cc := cX9_stands) (maxL := 2) (ret := (some .int)) (by decide) rfl (Nat.le_of_ble_eq_true rfl) ?_
  intro p e s m below meth c A ls Q hBd hret
  obtain ⟨hx, hb, hr, hml, hts, hown, hlk, hnm, hP, hK, hD, hA, hZ, hl⟩ := hBd
  have hown : s.vm.findClass RX9 = some m.cls := hown
  have hl : lv_has ls 2 [(0, .ref h0), (1, .int p0)] := hl
  have hS : va_S A s.heap s.heap [] := va_S.rf
  refine lv_aload_n hx hb dX9_stands_0 rfl (lv_at hl 0 rfl) ?_
  refine va_get (D := G) (ci := 9) (v := .ref (b 1)) (C := RX9) (T := TX9) (N := 11) hx hb hts iG_X9 hown hK hP 0 rfl rfl 1 (by decide) (hts _ w_352) (fun _ h9 => h9) rfl dX9_stands_1 ?_
  refine lv_iload_n hx hb dX9_stands_4 rfl (lv_at hl 1 rfl) ?_
  obtain ⟨v1, ev1⟩ : ∃ y : Int64, p0.toInt64 = y := ⟨_, rfl⟩
  have tv1 : v1.toInt = p0.toInt := ti_wide rfl ev1
  refine lv_i2l (v := v1) hx hb dX9_stands_5 ev1 ?_
  refine k_i (wc := [(b 1, oX0 bt t_lines t_span t_rule t_odds t_wide t_high t_creeks t_houses t_widows t_acts)]) (wr := [(h0, oX9 b), (b 4, oX6 bn n_field n_houses), (bn 1, .inl (cI, 7, .inl n_f1)), (bn 2, .inl (cI, 7, .inl n_f2))]) hP hD hS hA [1] [0, 2, 3, 4] rfl rfl rfl (by decide) (va_runVN (As := [.long v1]) (rest := []) ⟨hx, hb, hml, hown, hts⟩ (f_X0_hasWidow l G cI cJ cZ cB cQ _ (b 1) v1 p0.toInt bt t_lines t_span t_rule t_odds t_wide t_high t_creeks t_houses t_widows t_acts tv1 hl_t_span hh_t_span hl_t_rule hh_t_rule hl_t_odds hh_t_odds hl_t_wide hh_t_wide hl_t_high hh_t_high hl_t_creeks hh_t_creeks hl_t_houses hh_t_houses hl_t_widows hh_t_widows hl_t_acts hh_t_acts) ⟨va_cnB (host := "WidowRoads") 1 hts (gW w_671) rfl rfl rfl (nz_nw hZ nw_668 rfl) (hts _ w_4) hd_X0_hasWidow ⟨Nat.le_of_ble_eq_true rfl, Nat.le_of_ble_eq_true rfl⟩, (hts _ w_670), (hts _ wp_35)⟩ (mV hK hZ hP hD [1] rfl rfl [.long v1] 1 0 rfl rfl) rfl rfl hl.1 rfl (lv_room (Nat.le_of_ble_eq_true rfl)) dX9_stands_6 ⟨Nat.le_of_ble_eq_true rfl, Nat.le_of_ble_eq_true rfl⟩) (fun r2 u3 H locs hw4 hP hD hS => ?_)
  try dsimp only at hw4
  have hP : va_P G vwCl [(h0, oX9 b), (b 4, oX6 bn n_field n_houses), (bn 1, .inl (cI, 7, .inl n_f1)), (bn 2, .inl (cI, 7, .inl n_f2)), (b 1, oX0 bt t_lines t_span t_rule t_odds t_wide t_high t_creeks t_houses t_widows t_acts)] H := hP
  have hD : va_D A [(h0, oX9 b), (b 4, oX6 bn n_field n_houses), (bn 1, .inl (cI, 7, .inl n_f1)), (bn 2, .inl (cI, 7, .inl n_f2)), (b 1, oX0 bt t_lines t_span t_rule t_odds t_wide t_high t_creeks t_houses t_widows t_acts)] := hD
  rcases hw4 with ⟨rfl, a6, a7⟩ | ⟨rfl, a8⟩
  · skip
    refine lv_if_ne (tgt := 15) hx hb dX9_stands_9 (by decide) (fun c9 => ?_) (fun c9 => absurd c9 (by decide))
    refine lv_aload_n hx hb dX9_stands_15 rfl (lv_at hl 0 rfl) ?_
    refine va_get (D := G) (ci := 9) (v := .ref (b 4)) (C := RX9) (T := TX9) (N := 11) hx hb hts iG_X9 hown hK hP 0 rfl rfl 4 (by decide) (hts _ w_355) (fun _ h9 => h9) rfl dX9_stands_16 ?_
    refine lv_iload_n hx hb dX9_stands_19 rfl (lv_at hl 1 rfl) ?_
    refine k_i (wc := [(b 4, oX6 bn n_field n_houses), (bn 1, .inl (cI, 7, .inl n_f1))]) (wr := [(h0, oX9 b), (bn 2, .inl (cI, 7, .inl n_f2)), (b 1, oX0 bt t_lines t_span t_rule t_odds t_wide t_high t_creeks t_houses t_widows t_acts)]) hP hD hS hA [1, 2] [0, 3, 4] rfl rfl rfl (by decide) (va_runVN (As := [.int p0]) (rest := []) ⟨hx, hb, hml, hown, hts⟩ (f_X6_walks l G cI cJ cZ cB cQ _ (b 4) p0 bn n_field n_houses n_f1 (by omega) (by omega) hl_n_houses hh_n_houses ha_n_f1) ⟨va_cnB (host := "WidowRoads") 1 hts (gW w_702) rfl rfl rfl (nz_nw hZ nw_699 rfl) (hts _ w_6) hd_X6_walks ⟨Nat.le_of_ble_eq_true rfl, Nat.le_of_ble_eq_true rfl⟩, (hts _ w_701), (hts _ wp_37)⟩ (mV hK hZ hP hD [1, 2] rfl rfl [.int p0] 1 6 rfl rfl) rfl rfl hl.1 rfl (lv_room (Nat.le_of_ble_eq_true rfl)) dX9_stands_20 ⟨Nat.le_of_ble_eq_true rfl, Nat.le_of_ble_eq_true rfl⟩) (fun r10 u11 H locs hw12 hP hD hS => ?_)
    try dsimp only at hw12
    have hP : va_P G vwCl [(h0, oX9 b), (bn 2, .inl (cI, 7, .inl n_f2)), (b 1, oX0 bt t_lines t_span t_rule t_odds t_wide t_high t_creeks t_houses t_widows t_acts), (b 4, oX6 bn n_field n_houses), (bn 1, .inl (cI, 7, .inl n_f1))] H := hP
    have hD : va_D A [(h0, oX9 b), (bn 2, .inl (cI, 7, .inl n_f2)), (b 1, oX0 bt t_lines t_span t_rule t_odds t_wide t_high t_creeks t_houses t_widows t_acts), (b 4, oX6 bn n_field n_houses), (bn 1, .inl (cI, 7, .inl n_f1))] := hD
    rcases hw12 with ⟨rfl, a14⟩ | ⟨rfl, a15⟩
    · skip
      refine lv_if_eq (tgt := 38) hx hb dX9_stands_23 (by decide) (fun c16 => absurd c16 (by decide)) (fun c16 => ?_)
      refine lv_aload_n hx hb dX9_stands_26 rfl (lv_at hl 0 rfl) ?_
      refine va_get (D := G) (ci := 9) (v := .ref (b 4)) (C := RX9) (T := TX9) (N := 11) hx hb hts iG_X9 hown hK hP 0 rfl rfl 4 (by decide) (hts _ w_355) (fun _ h9 => h9) rfl dX9_stands_27 ?_
      refine va_getN (D := G) (ci := 6) (v := .ref (bn 2)) (C := RX6) (T := TX6) (N := 12) hx hb hts iG_X6 hown hK hP 3 rfl rfl 2 (by decide) (nz_use hZ nw_237 rfl) (fun _ h9 => h9) rfl dX9_stands_30 ?_
      refine lv_iload_n hx hb dX9_stands_33 rfl (lv_at hl 1 rfl) ?_
      refine va_iald hx hb hK hP 1 0 rfl rfl (ix_in rfl (by omega) (by omega)) dX9_stands_34 ?_
      refine lv_topi (fun v17 ev17 => ?_)
      refine lv_goto (tgt := 39) hx hb dX9_stands_35 (by decide) ?_
      exact hret _ _ _ _ v17 () (hP.sub (ws' := [(h0, oX9 b), (b 1, oX0 bt t_lines t_span t_rule t_odds t_wide t_high t_creeks t_houses t_widows t_acts), (b 4, oX6 bn n_field n_houses), (bn 1, .inl (cI, 7, .inl n_f1)), (bn 2, .inl (cI, 7, .inl n_f2))]) [0, 2, 3, 4, 1] rfl) (hD.sub (ws' := [(h0, oX9 b), (b 1, oX0 bt t_lines t_span t_rule t_odds t_wide t_high t_creeks t_houses t_widows t_acts), (b 4, oX6 bn n_field n_houses), (bn 1, .inl (cI, 7, .inl n_f1)), (bn 2, .inl (cI, 7, .inl n_f2))]) [0, 2, 3, 4, 1] rfl rfl) hS dX9_stands_39 trivial
    · skip
      refine lv_if_eq (tgt := 38) hx hb dX9_stands_23 (by decide) (fun c18 => ?_) (fun c18 => absurd (by decide) c18)
      refine lv_iconst (v := (-1)) hx hb dX9_stands_38 (by decide) ?_
      exact hret _ _ _ _ (-1) () (hP.sub (ws' := [(h0, oX9 b), (b 1, oX0 bt t_lines t_span t_rule t_odds t_wide t_high t_creeks t_houses t_widows t_acts), (b 4, oX6 bn n_field n_houses), (bn 1, .inl (cI, 7, .inl n_f1)), (bn 2, .inl (cI, 7, .inl n_f2))]) [0, 2, 3, 4, 1] rfl) (hD.sub (ws' := [(h0, oX9 b), (b 1, oX0 bt t_lines t_span t_rule t_odds t_wide t_high t_creeks t_houses t_widows t_acts), (b 4, oX6 bn n_field n_houses), (bn 1, .inl (cI, 7, .inl n_f1)), (bn 2, .inl (cI, 7, .inl n_f2))]) [0, 2, 3, 4, 1] rfl rfl) hS dX9_stands_39 trivial
  · skip
    refine lv_if_ne (tgt := 15) hx hb dX9_stands_9 (by decide) (fun c19 => absurd (by decide) c19) (fun c19 => ?_)
    refine lv_bipush (v := (-2)) hx hb dX9_stands_12 (by decide) ?_
    exact hret _ _ _ _ (-2) () (hP.sub (ws' := [(h0, oX9 b), (b 1, oX0 bt t_lines t_span t_rule t_odds t_wide t_high t_creeks t_houses t_widows t_acts), (b 4, oX6 bn n_field n_houses), (bn 1, .inl (cI, 7, .inl n_f1)), (bn 2, .inl (cI, 7, .inl n_f2))]) [0, 4, 1, 2, 3] rfl) (hD.sub (ws' := [(h0, oX9 b), (b 1, oX0 bt t_lines t_span t_rule t_odds t_wide t_high t_creeks t_houses t_widows t_acts), (b 4, oX6 bn n_field n_houses), (bn 1, .inl (cI, 7, .inl n_f1)), (bn 2, .inl (cI, 7, .inl n_f2))]) [0, 4, 1, 2, 3] rfl rfl) hS dX9_stands_14 trivial
set_option maxHeartbeats 4000000 in
set_option maxRecDepth 100000 in
theorem f_X9_ground (l : Launch) (G : va_G) (cI cJ cZ cB cQ : ClassId) (sz : Nat) (h0 : Nat) (p0 : Int32) (b : Nat → Nat) (bt : Nat → Nat) (t_lines : Int32) (t_span : Int32) (t_rule : Int32) (t_odds : Int32) (t_wide : Int32) (t_high : Int32) (t_creeks : Int32) (t_houses : Int32) (t_widows : Int32) (t_acts : Int32) (bn : Nat → Nat) (n_field : Int64) (n_houses : Int32) (n_f1 : Nat → Int32) (n_f3 : Nat → Int64) (hl_t_span : 0 ≤ t_span.toInt) (hh_t_span : t_span.toInt ≤ 12) (hl_t_rule : 0 ≤ t_rule.toInt) (hh_t_rule : t_rule.toInt ≤ 3) (hl_t_odds : 0 ≤ t_odds.toInt) (hh_t_odds : t_odds.toInt ≤ 10) (hl_t_wide : 0 ≤ t_wide.toInt) (hh_t_wide : t_wide.toInt ≤ 8) (hl_t_high : 0 ≤ t_high.toInt) (hh_t_high : t_high.toInt ≤ 8) (hl_t_creeks : 0 ≤ t_creeks.toInt) (hh_t_creeks : t_creeks.toInt ≤ 12) (hl_t_houses : 0 ≤ t_houses.toInt) (hh_t_houses : t_houses.toInt ≤ 6) (hl_t_widows : 0 ≤ t_widows.toInt) (hh_t_widows : t_widows.toInt ≤ 7) (hl_t_acts : 0 ≤ t_acts.toInt) (hh_t_acts : t_acts.toInt ≤ 30) (hl_n_houses : 0 ≤ n_houses.toInt) (hh_n_houses : n_houses.toInt ≤ 6) (ha_n_f1 : ai n_f1 7 (-1) 40) : CI l yX9_ground (wl_ yX9_ground cX9_ground 2 (some .int)) ({ frames := 1, cells := 0, slots := 0, locals := 22 } : Room) G (TY cI cJ cZ cB cQ) [.ref h0, .int p0] [(h0, oX9 b), (b 1, oX0 bt t_lines t_span t_rule t_odds t_wide t_high t_creeks t_houses t_widows t_acts), (b 4, oX6 bn n_field n_houses), (bn 1, .inl (cI, 7, .inl n_f1)), (bn 3, .inl (cJ, 7, .inr (.inl n_f3)))] sz (fun (r : Int32) (u : Unit) => True) (fun _ : Unit => [(h0, oX9 b), (b 1, oX0 bt t_lines t_span t_rule t_odds t_wide t_high t_creeks t_houses t_widows t_acts), (b 4, oX6 bn n_field n_houses), (bn 1, .inl (cI, 7, .inl n_f1)), (bn 3, .inl (cJ, 7, .inr (.inl n_f3)))]) 0 0 := by
  refine CI.go (cc := cX9_ground) (maxL := 2) (ret := (some .int)) (by decide) rfl (Nat.le_of_ble_eq_true rfl) ?_
  intro p e s m below meth c A ls Q hBd hret
  obtain ⟨hx, hb, hr, hml, hts, hown, hlk, hnm, hP, hK, hD, hA, hZ, hl⟩ := hBd
  have hown : s.vm.findClass RX9 = some m.cls := hown
  have hl : lv_has ls 2 [(0, .ref h0), (1, .int p0)] := hl
  have hS : va_S A s.heap s.heap [] := va_S.rf
  refine lv_aload_n hx hb dX9_ground_0 rfl (lv_at hl 0 rfl) ?_
  refine va_get (D := G) (ci := 9) (v := .ref (b 1)) (C := RX9) (T := TX9) (N := 11) hx hb hts iG_X9 hown hK hP 0 rfl rfl 1 (by decide) (hts _ w_352) (fun _ h9 => h9) rfl dX9_ground_1 ?_
  refine lv_iload_n hx hb dX9_ground_4 rfl (lv_at hl 1 rfl) ?_
  obtain ⟨v1, ev1⟩ : ∃ y : Int64, p0.toInt64 = y := ⟨_, rfl⟩
  have tv1 : v1.toInt = p0.toInt := ti_wide rfl ev1
  refine lv_i2l (v := v1) hx hb dX9_ground_5 ev1 ?_
  refine k_i (wc := [(b 1, oX0 bt t_lines t_span t_rule t_odds t_wide t_high t_creeks t_houses t_widows t_acts)]) (wr := [(h0, oX9 b), (b 4, oX6 bn n_field n_houses), (bn 1, .inl (cI, 7, .inl n_f1)), (bn 3, .inl (cJ, 7, .inr (.inl n_f3)))]) hP hD hS hA [1] [0, 2, 3, 4] rfl rfl rfl (by decide) (va_runVN (As := [.long v1]) (rest := []) ⟨hx, hb, hml, hown, hts⟩ (f_X0_hasWidow l G cI cJ cZ cB cQ _ (b 1) v1 p0.toInt bt t_lines t_span t_rule t_odds t_wide t_high t_creeks t_houses t_widows t_acts tv1 hl_t_span hh_t_span hl_t_rule hh_t_rule hl_t_odds hh_t_odds hl_t_wide hh_t_wide hl_t_high hh_t_high hl_t_creeks hh_t_creeks hl_t_houses hh_t_houses hl_t_widows hh_t_widows hl_t_acts hh_t_acts) ⟨va_cnB (host := "WidowRoads") 1 hts (gW w_671) rfl rfl rfl (nz_nw hZ nw_668 rfl) (hts _ w_4) hd_X0_hasWidow ⟨Nat.le_of_ble_eq_true rfl, Nat.le_of_ble_eq_true rfl⟩, (hts _ w_670), (hts _ wp_35)⟩ (mV hK hZ hP hD [1] rfl rfl [.long v1] 1 0 rfl rfl) rfl rfl hl.1 rfl (lv_room (Nat.le_of_ble_eq_true rfl)) dX9_ground_6 ⟨Nat.le_of_ble_eq_true rfl, Nat.le_of_ble_eq_true rfl⟩) (fun r2 u3 H locs hw4 hP hD hS => ?_)
  try dsimp only at hw4
  have hP : va_P G vwCl [(h0, oX9 b), (b 4, oX6 bn n_field n_houses), (bn 1, .inl (cI, 7, .inl n_f1)), (bn 3, .inl (cJ, 7, .inr (.inl n_f3))), (b 1, oX0 bt t_lines t_span t_rule t_odds t_wide t_high t_creeks t_houses t_widows t_acts)] H := hP
  have hD : va_D A [(h0, oX9 b), (b 4, oX6 bn n_field n_houses), (bn 1, .inl (cI, 7, .inl n_f1)), (bn 3, .inl (cJ, 7, .inr (.inl n_f3))), (b 1, oX0 bt t_lines t_span t_rule t_odds t_wide t_high t_creeks t_houses t_widows t_acts)] := hD
  rcases hw4 with ⟨rfl, a6, a7⟩ | ⟨rfl, a8⟩
  · skip
    refine lv_if_ne (tgt := 15) hx hb dX9_ground_9 (by decide) (fun c9 => ?_) (fun c9 => absurd c9 (by decide))
    refine lv_aload_n hx hb dX9_ground_15 rfl (lv_at hl 0 rfl) ?_
    refine va_get (D := G) (ci := 9) (v := .ref (b 4)) (C := RX9) (T := TX9) (N := 11) hx hb hts iG_X9 hown hK hP 0 rfl rfl 4 (by decide) (hts _ w_355) (fun _ h9 => h9) rfl dX9_ground_16 ?_
    refine lv_iload_n hx hb dX9_ground_19 rfl (lv_at hl 1 rfl) ?_
    refine k_i (wc := [(b 4, oX6 bn n_field n_houses), (bn 1, .inl (cI, 7, .inl n_f1))]) (wr := [(h0, oX9 b), (bn 3, .inl (cJ, 7, .inr (.inl n_f3))), (b 1, oX0 bt t_lines t_span t_rule t_odds t_wide t_high t_creeks t_houses t_widows t_acts)]) hP hD hS hA [1, 2] [0, 3, 4] rfl rfl rfl (by decide) (va_runVN (As := [.int p0]) (rest := []) ⟨hx, hb, hml, hown, hts⟩ (f_X6_walks l G cI cJ cZ cB cQ _ (b 4) p0 bn n_field n_houses n_f1 (by omega) (by omega) hl_n_houses hh_n_houses ha_n_f1) ⟨va_cnB (host := "WidowRoads") 1 hts (gW w_702) rfl rfl rfl (nz_nw hZ nw_699 rfl) (hts _ w_6) hd_X6_walks ⟨Nat.le_of_ble_eq_true rfl, Nat.le_of_ble_eq_true rfl⟩, (hts _ w_701), (hts _ wp_37)⟩ (mV hK hZ hP hD [1, 2] rfl rfl [.int p0] 1 6 rfl rfl) rfl rfl hl.1 rfl (lv_room (Nat.le_of_ble_eq_true rfl)) dX9_ground_20 ⟨Nat.le_of_ble_eq_true rfl, Nat.le_of_ble_eq_true rfl⟩) (fun r10 u11 H locs hw12 hP hD hS => ?_)
    try dsimp only at hw12
    have hP : va_P G vwCl [(h0, oX9 b), (bn 3, .inl (cJ, 7, .inr (.inl n_f3))), (b 1, oX0 bt t_lines t_span t_rule t_odds t_wide t_high t_creeks t_houses t_widows t_acts), (b 4, oX6 bn n_field n_houses), (bn 1, .inl (cI, 7, .inl n_f1))] H := hP
    have hD : va_D A [(h0, oX9 b), (bn 3, .inl (cJ, 7, .inr (.inl n_f3))), (b 1, oX0 bt t_lines t_span t_rule t_odds t_wide t_high t_creeks t_houses t_widows t_acts), (b 4, oX6 bn n_field n_houses), (bn 1, .inl (cI, 7, .inl n_f1))] := hD
    rcases hw12 with ⟨rfl, a14⟩ | ⟨rfl, a15⟩
    · skip
      refine lv_if_eq (tgt := 41) hx hb dX9_ground_23 (by decide) (fun c16 => absurd c16 (by decide)) (fun c16 => ?_)
      refine lv_aload_n hx hb dX9_ground_26 rfl (lv_at hl 0 rfl) ?_
      refine va_get (D := G) (ci := 9) (v := .ref (b 4)) (C := RX9) (T := TX9) (N := 11) hx hb hts iG_X9 hown hK hP 0 rfl rfl 4 (by decide) (hts _ w_355) (fun _ h9 => h9) rfl dX9_ground_27 ?_
      refine va_getN (D := G) (ci := 6) (v := .ref (bn 3)) (C := RX6) (T := TX6) (N := 12) hx hb hts iG_X6 hown hK hP 3 rfl rfl 3 (by decide) (nz_use hZ nw_239 rfl) (fun _ h9 => h9) rfl dX9_ground_30 ?_
      refine lv_iload_n hx hb dX9_ground_33 rfl (lv_at hl 1 rfl) ?_
      refine va_lald hx hb hK hP 1 1 rfl rfl (ix_in rfl (by omega) (by omega)) dX9_ground_34 ?_
      refine lv_topl (fun v17 ev17 => ?_)
      refine k_i (wc := []) (wr := [(h0, oX9 b), (bn 3, .inl (cJ, 7, .inr (.inl n_f3))), (b 1, oX0 bt t_lines t_span t_rule t_odds t_wide t_high t_creeks t_houses t_widows t_acts), (b 4, oX6 bn n_field n_houses), (bn 1, .inl (cI, 7, .inl n_f1))]) hP hD hS hA [] [0, 1, 2, 3, 4] rfl rfl rfl (by decide) (va_runS (As := [.long v17]) (rest := []) ⟨hx, hb, hml, hown, hts⟩ (f_J13_bitCount_95d88 l G cI cJ cZ cB cQ _ v17) (va_cwS 1 hts (gS w_639 w_640 w_18 w_641) rfl rfl rfl hd_J13_bitCount_95d88 ⟨Nat.le_of_ble_eq_true rfl, Nat.le_of_ble_eq_true rfl⟩) (mS hK hZ hP hD [] rfl rfl [.long v17]) rfl rfl hl.1 rfl (lv_room (Nat.le_of_ble_eq_true rfl)) dX9_ground_35 ⟨Nat.le_of_ble_eq_true rfl, Nat.le_of_ble_eq_true rfl⟩) (fun r18 u19 H locs hw20 hP hD hS => ?_)
      try dsimp only at hw20
      have hP : va_P G vwCl [(h0, oX9 b), (bn 3, .inl (cJ, 7, .inr (.inl n_f3))), (b 1, oX0 bt t_lines t_span t_rule t_odds t_wide t_high t_creeks t_houses t_widows t_acts), (b 4, oX6 bn n_field n_houses), (bn 1, .inl (cI, 7, .inl n_f1))] H := hP
      have hD : va_D A [(h0, oX9 b), (bn 3, .inl (cJ, 7, .inr (.inl n_f3))), (b 1, oX0 bt t_lines t_span t_rule t_odds t_wide t_high t_creeks t_houses t_widows t_acts), (b 4, oX6 bn n_field n_houses), (bn 1, .inl (cI, 7, .inl n_f1))] := hD
      obtain ⟨w21, w22⟩ : 0 ≤ r18.toInt ∧ r18.toInt ≤ 127 := hw20
      refine lv_goto (tgt := 42) hx hb dX9_ground_38 (by decide) ?_
      exact hret _ _ _ _ r18 () (hP.sub (ws' := [(h0, oX9 b), (b 1, oX0 bt t_lines t_span t_rule t_odds t_wide t_high t_creeks t_houses t_widows t_acts), (b 4, oX6 bn n_field n_houses), (bn 1, .inl (cI, 7, .inl n_f1)), (bn 3, .inl (cJ, 7, .inr (.inl n_f3)))]) [0, 2, 3, 4, 1] rfl) (hD.sub (ws' := [(h0, oX9 b), (b 1, oX0 bt t_lines t_span t_rule t_odds t_wide t_high t_creeks t_houses t_widows t_acts), (b 4, oX6 bn n_field n_houses), (bn 1, .inl (cI, 7, .inl n_f1)), (bn 3, .inl (cJ, 7, .inr (.inl n_f3)))]) [0, 2, 3, 4, 1] rfl rfl) hS dX9_ground_42 trivial
    · skip
      refine lv_if_eq (tgt := 41) hx hb dX9_ground_23 (by decide) (fun c23 => ?_) (fun c23 => absurd (by decide) c23)
      refine lv_iconst (v := (-1)) hx hb dX9_ground_41 (by decide) ?_
      exact hret _ _ _ _ (-1) () (hP.sub (ws' := [(h0, oX9 b), (b 1, oX0 bt t_lines t_span t_rule t_odds t_wide t_high t_creeks t_houses t_widows t_acts), (b 4, oX6 bn n_field n_houses), (bn 1, .inl (cI, 7, .inl n_f1)), (bn 3, .inl (cJ, 7, .inr (.inl n_f3)))]) [0, 2, 3, 4, 1] rfl) (hD.sub (ws' := [(h0, oX9 b), (b 1, oX0 bt t_lines t_span t_rule t_odds t_wide t_high t_creeks t_houses t_widows t_acts), (b 4, oX6 bn n_field n_houses), (bn 1, .inl (cI, 7, .inl n_f1)), (bn 3, .inl (cJ, 7, .inr (.inl n_f3)))]) [0, 2, 3, 4, 1] rfl rfl) hS dX9_ground_42 trivial
  · skip
    refine lv_if_ne (tgt := 15) hx hb dX9_ground_9 (by decide) (fun c24 => absurd (by decide) c24) (fun c24 => ?_)
    refine lv_bipush (v := (-2)) hx hb dX9_ground_12 (by decide) ?_
    exact hret _ _ _ _ (-2) () (hP.sub (ws' := [(h0, oX9 b), (b 1, oX0 bt t_lines t_span t_rule t_odds t_wide t_high t_creeks t_houses t_widows t_acts), (b 4, oX6 bn n_field n_houses), (bn 1, .inl (cI, 7, .inl n_f1)), (bn 3, .inl (cJ, 7, .inr (.inl n_f3)))]) [0, 4, 1, 2, 3] rfl) (hD.sub (ws' := [(h0, oX9 b), (b 1, oX0 bt t_lines t_span t_rule t_odds t_wide t_high t_creeks t_houses t_widows t_acts), (b 4, oX6 bn n_field n_houses), (bn 1, .inl (cI, 7, .inl n_f1)), (bn 3, .inl (cJ, 7, .inr (.inl n_f3)))]) [0, 4, 1, 2, 3] rfl rfl) hS dX9_ground_14 trivial
set_option maxHeartbeats 4000000 in
set_option maxRecDepth 100000 in
theorem f_X9_loop (l : Launch) (G : va_G) (cI cJ cZ cB cQ : ClassId) (sz : Nat) (h0 : Nat) (p0 : Int32) (b : Nat → Nat) (bt : Nat → Nat) (t_lines : Int32) (t_span : Int32) (t_rule : Int32) (t_odds : Int32) (t_wide : Int32) (t_high : Int32) (t_creeks : Int32) (t_houses : Int32) (t_widows : Int32) (t_acts : Int32) (bn : Nat → Nat) (n_field : Int64) (n_houses : Int32) (n_f0 : Nat → Int32) (n_f1 : Nat → Int32) (hl_t_span : 0 ≤ t_span.toInt) (hh_t_span : t_span.toInt ≤ 12) (hl_t_rule : 0 ≤ t_rule.toInt) (hh_t_rule : t_rule.toInt ≤ 3) (hl_t_odds : 0 ≤ t_odds.toInt) (hh_t_odds : t_odds.toInt ≤ 10) (hl_t_wide : 0 ≤ t_wide.toInt) (hh_t_wide : t_wide.toInt ≤ 8) (hl_t_high : 0 ≤ t_high.toInt) (hh_t_high : t_high.toInt ≤ 8) (hl_t_creeks : 0 ≤ t_creeks.toInt) (hh_t_creeks : t_creeks.toInt ≤ 12) (hl_t_houses : 0 ≤ t_houses.toInt) (hh_t_houses : t_houses.toInt ≤ 6) (hl_t_widows : 0 ≤ t_widows.toInt) (hh_t_widows : t_widows.toInt ≤ 7) (hl_t_acts : 0 ≤ t_acts.toInt) (hh_t_acts : t_acts.toInt ≤ 30) (hl_n_houses : 0 ≤ n_houses.toInt) (hh_n_houses : n_houses.toInt ≤ 6) (ha_n_f1 : ai n_f1 7 (-1) 40) : CI l yX9_loop (wl_ yX9_loop cX9_loop 4 (some .int)) ({ frames := 1, cells := 0, slots := 0, locals := 22 } : Room) G (TY cI cJ cZ cB cQ) [.ref h0, .int p0] [(h0, oX9 b), (b 1, oX0 bt t_lines t_span t_rule t_odds t_wide t_high t_creeks t_houses t_widows t_acts), (b 4, oX6 bn n_field n_houses), (bn 0, .inl (cI, 287, .inl n_f0)), (bn 1, .inl (cI, 7, .inl n_f1))] sz (fun (r : Int32) (u : Unit) => True) (fun _ : Unit => [(h0, oX9 b), (b 1, oX0 bt t_lines t_span t_rule t_odds t_wide t_high t_creeks t_houses t_widows t_acts), (b 4, oX6 bn n_field n_houses), (bn 0, .inl (cI, 287, .inl n_f0)), (bn 1, .inl (cI, 7, .inl n_f1))]) 0 0 := by
  refine CI.go (cc := cX9_loop) (maxL := 4) (ret := (some .int)) (by decide) rfl (Nat.le_of_ble_eq_true rfl) ?_
  intro p e s m below meth c A ls Q hBd hret
  obtain ⟨hx, hb, hr, hml, hts, hown, hlk, hnm, hP, hK, hD, hA, hZ, hl⟩ := hBd
  have hown : s.vm.findClass RX9 = some m.cls := hown
  have hl : lv_has ls 4 [(0, .ref h0), (1, .int p0)] := hl
  have hS : va_S A s.heap s.heap [] := va_S.rf
  refine lv_aload_n hx hb dX9_loop_0 rfl (lv_at hl 0 rfl) ?_
  refine va_get (D := G) (ci := 9) (v := .ref (b 1)) (C := RX9) (T := TX9) (N := 11) hx hb hts iG_X9 hown hK hP 0 rfl rfl 1 (by decide) (hts _ w_352) (fun _ h9 => h9) rfl dX9_loop_1 ?_
  refine lv_iload_n hx hb dX9_loop_4 rfl (lv_at hl 1 rfl) ?_
  obtain ⟨v1, ev1⟩ : ∃ y : Int64, p0.toInt64 = y := ⟨_, rfl⟩
  have tv1 : v1.toInt = p0.toInt := ti_wide rfl ev1
  refine lv_i2l (v := v1) hx hb dX9_loop_5 ev1 ?_
  refine k_i (wc := [(b 1, oX0 bt t_lines t_span t_rule t_odds t_wide t_high t_creeks t_houses t_widows t_acts)]) (wr := [(h0, oX9 b), (b 4, oX6 bn n_field n_houses), (bn 0, .inl (cI, 287, .inl n_f0)), (bn 1, .inl (cI, 7, .inl n_f1))]) hP hD hS hA [1] [0, 2, 3, 4] rfl rfl rfl (by decide) (va_runVN (As := [.long v1]) (rest := []) ⟨hx, hb, hml, hown, hts⟩ (f_X0_hasWidow l G cI cJ cZ cB cQ _ (b 1) v1 p0.toInt bt t_lines t_span t_rule t_odds t_wide t_high t_creeks t_houses t_widows t_acts tv1 hl_t_span hh_t_span hl_t_rule hh_t_rule hl_t_odds hh_t_odds hl_t_wide hh_t_wide hl_t_high hh_t_high hl_t_creeks hh_t_creeks hl_t_houses hh_t_houses hl_t_widows hh_t_widows hl_t_acts hh_t_acts) ⟨va_cnB (host := "WidowRoads") 1 hts (gW w_671) rfl rfl rfl (nz_nw hZ nw_668 rfl) (hts _ w_4) hd_X0_hasWidow ⟨Nat.le_of_ble_eq_true rfl, Nat.le_of_ble_eq_true rfl⟩, (hts _ w_670), (hts _ wp_35)⟩ (mV hK hZ hP hD [1] rfl rfl [.long v1] 1 0 rfl rfl) rfl rfl hl.1 rfl (lv_room (Nat.le_of_ble_eq_true rfl)) dX9_loop_6 ⟨Nat.le_of_ble_eq_true rfl, Nat.le_of_ble_eq_true rfl⟩) (fun r2 u3 H locs hw4 hP hD hS => ?_)
  try dsimp only at hw4
  have hP : va_P G vwCl [(h0, oX9 b), (b 4, oX6 bn n_field n_houses), (bn 0, .inl (cI, 287, .inl n_f0)), (bn 1, .inl (cI, 7, .inl n_f1)), (b 1, oX0 bt t_lines t_span t_rule t_odds t_wide t_high t_creeks t_houses t_widows t_acts)] H := hP
  have hD : va_D A [(h0, oX9 b), (b 4, oX6 bn n_field n_houses), (bn 0, .inl (cI, 287, .inl n_f0)), (bn 1, .inl (cI, 7, .inl n_f1)), (b 1, oX0 bt t_lines t_span t_rule t_odds t_wide t_high t_creeks t_houses t_widows t_acts)] := hD
  rcases hw4 with ⟨rfl, a6, a7⟩ | ⟨rfl, a8⟩
  · skip
    refine lv_if_ne (tgt := 15) hx hb dX9_loop_9 (by decide) (fun c9 => ?_) (fun c9 => absurd c9 (by decide))
    refine lv_aload_n hx hb dX9_loop_15 rfl (lv_at hl 0 rfl) ?_
    refine va_get (D := G) (ci := 9) (v := .ref (b 4)) (C := RX9) (T := TX9) (N := 11) hx hb hts iG_X9 hown hK hP 0 rfl rfl 4 (by decide) (hts _ w_355) (fun _ h9 => h9) rfl dX9_loop_16 ?_
    refine lv_iload_n hx hb dX9_loop_19 rfl (lv_at hl 1 rfl) ?_
    refine lv_iconst (v := 0) hx hb dX9_loop_20 (by decide) ?_
    refine k_i (wc := [(b 4, oX6 bn n_field n_houses), (bn 0, .inl (cI, 287, .inl n_f0)), (bn 1, .inl (cI, 7, .inl n_f1))]) (wr := [(h0, oX9 b), (b 1, oX0 bt t_lines t_span t_rule t_odds t_wide t_high t_creeks t_houses t_widows t_acts)]) hP hD hS hA [1, 2, 3] [0, 4] rfl rfl rfl (by decide) (va_runVN (As := [.int p0, .int 0]) (rest := []) ⟨hx, hb, hml, hown, hts⟩ (f_X6_spotAt l G cI cJ cZ cB cQ _ (b 4) p0 0 bn n_field n_houses n_f0 n_f1 (by omega) (by omega) (by rw [ki_0]; decide) hl_n_houses hh_n_houses ha_n_f1) ⟨va_cnB (host := "WidowRoads") 2 hts (gW w_690) rfl rfl rfl (nz_nw hZ nw_687 rfl) (hts _ w_6) hd_X6_spotAt ⟨Nat.le_of_ble_eq_true rfl, Nat.le_of_ble_eq_true rfl⟩, (hts _ w_689), (hts _ wp_36)⟩ (mV hK hZ hP hD [1, 2, 3] rfl rfl [.int p0, .int 0] 1 6 rfl rfl) rfl rfl hl.1 rfl (lv_room (Nat.le_of_ble_eq_true rfl)) dX9_loop_21 ⟨Nat.le_of_ble_eq_true rfl, Nat.le_of_ble_eq_true rfl⟩) (fun r10 u11 H locs hw12 hP hD hS => ?_)
    try dsimp only at hw12
    have hP : va_P G vwCl [(h0, oX9 b), (b 1, oX0 bt t_lines t_span t_rule t_odds t_wide t_high t_creeks t_houses t_widows t_acts), (b 4, oX6 bn n_field n_houses), (bn 0, .inl (cI, 287, .inl n_f0)), (bn 1, .inl (cI, 7, .inl n_f1))] H := hP
    have hD : va_D A [(h0, oX9 b), (b 1, oX0 bt t_lines t_span t_rule t_odds t_wide t_high t_creeks t_houses t_widows t_acts), (b 4, oX6 bn n_field n_houses), (bn 0, .inl (cI, 287, .inl n_f0)), (bn 1, .inl (cI, 7, .inl n_f1))] := hD
    refine lv_istore_n (lv' := [(2, .int r10), (0, .ref h0), (1, .int p0)]) hx hb dX9_loop_24 rfl hl (by decide) rfl (fun ls hl => ?_)
    refine lv_iconst (v := 1) hx hb dX9_loop_25 (by decide) ?_
    refine lv_istore_n (lv' := [(3, .int 1), (2, .int r10), (0, .ref h0), (1, .int p0)]) hx hb dX9_loop_26 rfl hl (by decide) rfl (fun ls hl => ?_)
    have lp13 : ∀ (n14 : Nat) (x15 : Int32), 1 ≤ x15.toInt → x15.toInt ≤ 41 → 41 - x15.toInt < (n14 : Int) → ∀ (H : Heap) (locs : List Loc), va_P G vwCl [(h0, oX9 b), (b 1, oX0 bt t_lines t_span t_rule t_odds t_wide t_high t_creeks t_houses t_widows t_acts), (b 4, oX6 bn n_field n_houses), (bn 0, .inl (cI, 287, .inl n_f0)), (bn 1, .inl (cI, 7, .inl n_f1))] H → va_D A [(h0, oX9 b), (b 1, oX0 bt t_lines t_span t_rule t_odds t_wide t_high t_creeks t_houses t_widows t_acts), (b 4, oX6 bn n_field n_houses), (bn 0, .inl (cI, 287, .inl n_f0)), (bn 1, .inl (cI, 7, .inl n_f1))] → va_S A s.heap H locs → ∀ (ls : Array Slot), lv_has ls 4 [(3, .int x15), (2, .int r10), (0, .ref h0), (1, .int p0)] → W p l e ({ frames := 1, cells := 0, slots := 0, locals := 22 } : Room) s m ([.ref h0, .int p0] : List Value).toArray below meth c H locs 0 0 Q (F0 m 27 ls []) := by
      intro n14
      induction n14 with
      | zero =>
        intro x15 k16 k17 mm19
        exact absurd mm19 (by have q9 := fb_rng x15; omega)
      | succ n14 ih18 =>
        intro x15 k16 k17 mm19 H locs hP hD hS ls hl
        refine lv_iload_n hx hb dX9_loop_27 rfl (lv_at hl 0 rfl) ?_
        refine lv_aload_n hx hb dX9_loop_28 rfl (lv_at hl 2 rfl) ?_
        refine va_get (D := G) (ci := 9) (v := .ref (b 4)) (C := RX9) (T := TX9) (N := 11) hx hb hts iG_X9 hown hK hP 0 rfl rfl 4 (by decide) (hts _ w_355) (fun _ h9 => h9) rfl dX9_loop_29 ?_
        refine va_getN (D := G) (ci := 6) (v := .ref (bn 1)) (C := RX6) (T := TX6) (N := 12) hx hb hts iG_X6 hown hK hP 2 rfl rfl 1 (by decide) (nz_use hZ nw_235 rfl) (fun _ h9 => h9) rfl dX9_loop_32 ?_
        refine lv_iload_n hx hb dX9_loop_35 rfl (lv_at hl 3 rfl) ?_
        refine va_iald hx hb hK hP 4 0 rfl rfl (ix_in rfl (by omega) (by omega)) dX9_loop_36 ?_
        refine lv_topi (fun v20 ev20 => ?_)
        obtain ⟨ia21, ib22⟩ := ai_get ha_n_f1 rfl (by omega) (by omega) ev20
        refine lv_icmp_gt (tgt := 76) hx hb dX9_loop_37 (by decide) (fun c23 => ?_) (fun c23 => ?_)
        · have c23 := i_lt rfl rfl c23
          refine lv_iconst (v := (-1)) hx hb dX9_loop_76 (by decide) ?_
          exact hret _ _ _ _ (-1) () hP hD hS dX9_loop_77 trivial
        · have c23 := i_nlt rfl rfl c23
          refine lv_aload_n hx hb dX9_loop_40 rfl (lv_at hl 2 rfl) ?_
          refine va_get (D := G) (ci := 9) (v := .ref (b 4)) (C := RX9) (T := TX9) (N := 11) hx hb hts iG_X9 hown hK hP 0 rfl rfl 4 (by decide) (hts _ w_355) (fun _ h9 => h9) rfl dX9_loop_41 ?_
          refine lv_iload_n hx hb dX9_loop_44 rfl (lv_at hl 3 rfl) ?_
          refine lv_iload_n hx hb dX9_loop_45 rfl (lv_at hl 0 rfl) ?_
          refine k_i (wc := [(b 4, oX6 bn n_field n_houses), (bn 0, .inl (cI, 287, .inl n_f0)), (bn 1, .inl (cI, 7, .inl n_f1))]) (wr := [(h0, oX9 b), (b 1, oX0 bt t_lines t_span t_rule t_odds t_wide t_high t_creeks t_houses t_widows t_acts)]) hP hD hS hA [2, 3, 4] [0, 1] rfl rfl rfl (by decide) (va_runVN (As := [.int p0, .int x15]) (rest := []) ⟨hx, hb, hml, hown, hts⟩ (f_X6_spotAt l G cI cJ cZ cB cQ _ (b 4) p0 x15 bn n_field n_houses n_f0 n_f1 (by omega) (by omega) (by omega) hl_n_houses hh_n_houses ha_n_f1) ⟨va_cnB (host := "WidowRoads") 2 hts (gW w_690) rfl rfl rfl (nz_nw hZ nw_687 rfl) (hts _ w_6) hd_X6_spotAt ⟨Nat.le_of_ble_eq_true rfl, Nat.le_of_ble_eq_true rfl⟩, (hts _ w_689), (hts _ wp_36)⟩ (mV hK hZ hP hD [2, 3, 4] rfl rfl [.int p0, .int x15] 2 6 rfl rfl) rfl rfl hl.1 rfl (lv_room (Nat.le_of_ble_eq_true rfl)) dX9_loop_46 ⟨Nat.le_of_ble_eq_true rfl, Nat.le_of_ble_eq_true rfl⟩) (fun r24 u25 H locs hw26 hP hD hS => ?_)
          try dsimp only at hw26
          have hP : va_P G vwCl [(h0, oX9 b), (b 1, oX0 bt t_lines t_span t_rule t_odds t_wide t_high t_creeks t_houses t_widows t_acts), (b 4, oX6 bn n_field n_houses), (bn 0, .inl (cI, 287, .inl n_f0)), (bn 1, .inl (cI, 7, .inl n_f1))] H := hP
          have hD : va_D A [(h0, oX9 b), (b 1, oX0 bt t_lines t_span t_rule t_odds t_wide t_high t_creeks t_houses t_widows t_acts), (b 4, oX6 bn n_field n_houses), (bn 0, .inl (cI, 287, .inl n_f0)), (bn 1, .inl (cI, 7, .inl n_f1))] := hD
          refine lv_iload_n hx hb dX9_loop_49 rfl (lv_at hl 1 rfl) ?_
          refine lv_icmp_ne (tgt := 70) hx hb dX9_loop_50 (by decide) (fun c27 => ?_) (fun c27 => ?_)
          · have c27 := i_ne rfl rfl c27
            obtain ⟨v28, ev28⟩ : ∃ y : Int32, y = x15 + 1 := ⟨_, rfl⟩
            have tv28 : v28.toInt = x15.toInt + 1 := ti_add rfl ki_1 ev28 (by omega) (by omega)
            refine lv_iinc (v := v28) (lv' := [(3, .int v28), (2, .int r10), (0, .ref h0), (1, .int p0)]) hx hb dX9_loop_70 hl (k := 0) rfl (by rw [ev28]; rfl) (by decide) rfl (fun ls hl => ?_)
            refine lv_goto (tgt := 27) hx hb dX9_loop_73 (by decide) ?_
            exact ih18 v28 (by omega) (by omega) (by omega) _ _ hP hD hS ls (lv_sub hl [0, 1, 2, 3] rfl)
          · have c27 := i_eq rfl rfl c27
            refine lv_aload_n hx hb dX9_loop_53 rfl (lv_at hl 2 rfl) ?_
            refine va_get (D := G) (ci := 9) (v := .ref (b 4)) (C := RX9) (T := TX9) (N := 11) hx hb hts iG_X9 hown hK hP 0 rfl rfl 4 (by decide) (hts _ w_355) (fun _ h9 => h9) rfl dX9_loop_54 ?_
            refine lv_iload_n hx hb dX9_loop_57 rfl (lv_at hl 3 rfl) ?_
            refine lv_iload_n hx hb dX9_loop_58 rfl (lv_at hl 0 rfl) ?_
            refine lv_iconst (v := 1) hx hb dX9_loop_59 (by decide) ?_
            refine lv_isub hx hb dX9_loop_60 ?_
            refine lv_topi (fun v29 ev29 => ?_)
            have tv29 : v29.toInt = x15.toInt - 1 := ti_sub rfl ki_1 ev29 (by omega) (by omega)
            refine k_i (wc := [(b 4, oX6 bn n_field n_houses), (bn 0, .inl (cI, 287, .inl n_f0)), (bn 1, .inl (cI, 7, .inl n_f1))]) (wr := [(h0, oX9 b), (b 1, oX0 bt t_lines t_span t_rule t_odds t_wide t_high t_creeks t_houses t_widows t_acts)]) hP hD hS hA [2, 3, 4] [0, 1] rfl rfl rfl (by decide) (va_runVN (As := [.int p0, .int v29]) (rest := []) ⟨hx, hb, hml, hown, hts⟩ (f_X6_spotAt l G cI cJ cZ cB cQ _ (b 4) p0 v29 bn n_field n_houses n_f0 n_f1 (by omega) (by omega) (by omega) hl_n_houses hh_n_houses ha_n_f1) ⟨va_cnB (host := "WidowRoads") 2 hts (gW w_690) rfl rfl rfl (nz_nw hZ nw_687 rfl) (hts _ w_6) hd_X6_spotAt ⟨Nat.le_of_ble_eq_true rfl, Nat.le_of_ble_eq_true rfl⟩, (hts _ w_689), (hts _ wp_36)⟩ (mV hK hZ hP hD [2, 3, 4] rfl rfl [.int p0, .int v29] 2 6 rfl rfl) rfl rfl hl.1 rfl (lv_room (Nat.le_of_ble_eq_true rfl)) dX9_loop_61 ⟨Nat.le_of_ble_eq_true rfl, Nat.le_of_ble_eq_true rfl⟩) (fun r30 u31 H locs hw32 hP hD hS => ?_)
            try dsimp only at hw32
            have hP : va_P G vwCl [(h0, oX9 b), (b 1, oX0 bt t_lines t_span t_rule t_odds t_wide t_high t_creeks t_houses t_widows t_acts), (b 4, oX6 bn n_field n_houses), (bn 0, .inl (cI, 287, .inl n_f0)), (bn 1, .inl (cI, 7, .inl n_f1))] H := hP
            have hD : va_D A [(h0, oX9 b), (b 1, oX0 bt t_lines t_span t_rule t_odds t_wide t_high t_creeks t_houses t_widows t_acts), (b 4, oX6 bn n_field n_houses), (bn 0, .inl (cI, 287, .inl n_f0)), (bn 1, .inl (cI, 7, .inl n_f1))] := hD
            refine lv_iload_n hx hb dX9_loop_64 rfl (lv_at hl 1 rfl) ?_
            refine lv_icmp_eq (tgt := 70) hx hb dX9_loop_65 (by decide) (fun c33 => ?_) (fun c33 => ?_)
            · have c33 := i_eq rfl rfl c33
              obtain ⟨v34, ev34⟩ : ∃ y : Int32, y = x15 + 1 := ⟨_, rfl⟩
              have tv34 : v34.toInt = x15.toInt + 1 := ti_add rfl ki_1 ev34 (by omega) (by omega)
              refine lv_iinc (v := v34) (lv' := [(3, .int v34), (2, .int r10), (0, .ref h0), (1, .int p0)]) hx hb dX9_loop_70 hl (k := 0) rfl (by rw [ev34]; rfl) (by decide) rfl (fun ls hl => ?_)
              refine lv_goto (tgt := 27) hx hb dX9_loop_73 (by decide) ?_
              exact ih18 v34 (by omega) (by omega) (by omega) _ _ hP hD hS ls (lv_sub hl [0, 1, 2, 3] rfl)
            · have c33 := i_ne rfl rfl c33
              refine lv_iload_n hx hb dX9_loop_68 rfl (lv_at hl 0 rfl) ?_
              exact hret _ _ _ _ x15 () hP hD hS dX9_loop_69 trivial
    exact lp13 41 1 (by rw [ki_1]; decide) (by rw [ki_1]; decide) (by rw [ki_1]; decide) _ _ hP hD hS ls (lv_sub hl [0, 1, 2, 3] rfl)
  · skip
    refine lv_if_ne (tgt := 15) hx hb dX9_loop_9 (by decide) (fun c35 => absurd (by decide) c35) (fun c35 => ?_)
    refine lv_bipush (v := (-2)) hx hb dX9_loop_12 (by decide) ?_
    exact hret _ _ _ _ (-2) () (hP.sub (ws' := [(h0, oX9 b), (b 1, oX0 bt t_lines t_span t_rule t_odds t_wide t_high t_creeks t_houses t_widows t_acts), (b 4, oX6 bn n_field n_houses), (bn 0, .inl (cI, 287, .inl n_f0)), (bn 1, .inl (cI, 7, .inl n_f1))]) [0, 4, 1, 2, 3] rfl) (hD.sub (ws' := [(h0, oX9 b), (b 1, oX0 bt t_lines t_span t_rule t_odds t_wide t_high t_creeks t_houses t_widows t_acts), (b 4, oX6 bn n_field n_houses), (bn 0, .inl (cI, 287, .inl n_f0)), (bn 1, .inl (cI, 7, .inl n_f1))]) [0, 4, 1, 2, 3] rfl rfl) hS dX9_loop_14 trivial
set_option maxHeartbeats 4000000 in
set_option maxRecDepth 100000 in
theorem f_X9_haunt (l : Launch) (G : va_G) (cI cJ cZ cB cQ : ClassId) (sz : Nat) (h0 : Nat) (p0 : Int32) (b : Nat → Nat) (bt : Nat → Nat) (t_lines : Int32) (t_span : Int32) (t_rule : Int32) (t_odds : Int32) (t_wide : Int32) (t_high : Int32) (t_creeks : Int32) (t_houses : Int32) (t_widows : Int32) (t_acts : Int32) (bn : Nat → Nat) (n_field : Int64) (n_houses : Int32) (n_f0 : Nat → Int32) (n_f1 : Nat → Int32) (hl_t_span : 0 ≤ t_span.toInt) (hh_t_span : t_span.toInt ≤ 12) (hl_t_rule : 0 ≤ t_rule.toInt) (hh_t_rule : t_rule.toInt ≤ 3) (hl_t_odds : 0 ≤ t_odds.toInt) (hh_t_odds : t_odds.toInt ≤ 10) (hl_t_wide : 0 ≤ t_wide.toInt) (hh_t_wide : t_wide.toInt ≤ 8) (hl_t_high : 0 ≤ t_high.toInt) (hh_t_high : t_high.toInt ≤ 8) (hl_t_creeks : 0 ≤ t_creeks.toInt) (hh_t_creeks : t_creeks.toInt ≤ 12) (hl_t_houses : 0 ≤ t_houses.toInt) (hh_t_houses : t_houses.toInt ≤ 6) (hl_t_widows : 0 ≤ t_widows.toInt) (hh_t_widows : t_widows.toInt ≤ 7) (hl_t_acts : 0 ≤ t_acts.toInt) (hh_t_acts : t_acts.toInt ≤ 30) (hl_n_houses : 0 ≤ n_houses.toInt) (hh_n_houses : n_houses.toInt ≤ 6) (ha_n_f1 : ai n_f1 7 (-1) 40) : CI l yX9_haunt (wl_ yX9_haunt cX9_haunt 6 (some .int)) ({ frames := 2, cells := 0, slots := 0, locals := 44 } : Room) G (TY cI cJ cZ cB cQ) [.ref h0, .int p0] [(h0, oX9 b), (b 1, oX0 bt t_lines t_span t_rule t_odds t_wide t_high t_creeks t_houses t_widows t_acts), (b 4, oX6 bn n_field n_houses), (bn 0, .inl (cI, 287, .inl n_f0)), (bn 1, .inl (cI, 7, .inl n_f1))] sz (fun (r : Int32) (u : Unit) => True) (fun _ : Unit => [(h0, oX9 b), (b 1, oX0 bt t_lines t_span t_rule t_odds t_wide t_high t_creeks t_houses t_widows t_acts), (b 4, oX6 bn n_field n_houses), (bn 0, .inl (cI, 287, .inl n_f0)), (bn 1, .inl (cI, 7, .inl n_f1))]) 0 0 := by
  refine CI.go (cc := cX9_haunt) (maxL := 6) (ret := (some .int)) (by decide) rfl (Nat.le_of_ble_eq_true rfl) ?_
  intro p e s m below meth c A ls Q hBd hret
  obtain ⟨hx, hb, hr, hml, hts, hown, hlk, hnm, hP, hK, hD, hA, hZ, hl⟩ := hBd
  have hown : s.vm.findClass RX9 = some m.cls := hown
  have hl : lv_has ls 6 [(0, .ref h0), (1, .int p0)] := hl
  have hS : va_S A s.heap s.heap [] := va_S.rf
  refine lv_aload_n hx hb dX9_haunt_0 rfl (lv_at hl 0 rfl) ?_
  refine va_get (D := G) (ci := 9) (v := .ref (b 1)) (C := RX9) (T := TX9) (N := 11) hx hb hts iG_X9 hown hK hP 0 rfl rfl 1 (by decide) (hts _ w_352) (fun _ h9 => h9) rfl dX9_haunt_1 ?_
  refine lv_iload_n hx hb dX9_haunt_4 rfl (lv_at hl 1 rfl) ?_
  obtain ⟨v1, ev1⟩ : ∃ y : Int64, p0.toInt64 = y := ⟨_, rfl⟩
  have tv1 : v1.toInt = p0.toInt := ti_wide rfl ev1
  refine lv_i2l (v := v1) hx hb dX9_haunt_5 ev1 ?_
  refine k_i (wc := [(b 1, oX0 bt t_lines t_span t_rule t_odds t_wide t_high t_creeks t_houses t_widows t_acts)]) (wr := [(h0, oX9 b), (b 4, oX6 bn n_field n_houses), (bn 0, .inl (cI, 287, .inl n_f0)), (bn 1, .inl (cI, 7, .inl n_f1))]) hP hD hS hA [1] [0, 2, 3, 4] rfl rfl rfl (by decide) (va_runVN (As := [.long v1]) (rest := []) ⟨hx, hb, hml, hown, hts⟩ (f_X0_hasWidow l G cI cJ cZ cB cQ _ (b 1) v1 p0.toInt bt t_lines t_span t_rule t_odds t_wide t_high t_creeks t_houses t_widows t_acts tv1 hl_t_span hh_t_span hl_t_rule hh_t_rule hl_t_odds hh_t_odds hl_t_wide hh_t_wide hl_t_high hh_t_high hl_t_creeks hh_t_creeks hl_t_houses hh_t_houses hl_t_widows hh_t_widows hl_t_acts hh_t_acts) ⟨va_cnB (host := "WidowRoads") 1 hts (gW w_671) rfl rfl rfl (nz_nw hZ nw_668 rfl) (hts _ w_4) hd_X0_hasWidow ⟨Nat.le_of_ble_eq_true rfl, Nat.le_of_ble_eq_true rfl⟩, (hts _ w_670), (hts _ wp_35)⟩ (mV hK hZ hP hD [1] rfl rfl [.long v1] 1 0 rfl rfl) rfl rfl hl.1 rfl (lv_room (Nat.le_of_ble_eq_true rfl)) dX9_haunt_6 ⟨Nat.le_of_ble_eq_true rfl, Nat.le_of_ble_eq_true rfl⟩) (fun r2 u3 H locs hw4 hP hD hS => ?_)
  try dsimp only at hw4
  have hP : va_P G vwCl [(h0, oX9 b), (b 4, oX6 bn n_field n_houses), (bn 0, .inl (cI, 287, .inl n_f0)), (bn 1, .inl (cI, 7, .inl n_f1)), (b 1, oX0 bt t_lines t_span t_rule t_odds t_wide t_high t_creeks t_houses t_widows t_acts)] H := hP
  have hD : va_D A [(h0, oX9 b), (b 4, oX6 bn n_field n_houses), (bn 0, .inl (cI, 287, .inl n_f0)), (bn 1, .inl (cI, 7, .inl n_f1)), (b 1, oX0 bt t_lines t_span t_rule t_odds t_wide t_high t_creeks t_houses t_widows t_acts)] := hD
  rcases hw4 with ⟨rfl, a6, a7⟩ | ⟨rfl, a8⟩
  · skip
    refine lv_if_ne (tgt := 15) hx hb dX9_haunt_9 (by decide) (fun c9 => ?_) (fun c9 => absurd c9 (by decide))
    refine lv_iconst (v := 0) hx hb dX9_haunt_15 (by decide) ?_
    refine lv_istore_n (lv' := [(2, .int 0), (0, .ref h0), (1, .int p0)]) hx hb dX9_haunt_16 rfl hl (by decide) rfl (fun ls hl => ?_)
    refine lv_iconst (v := (-1)) hx hb dX9_haunt_17 (by decide) ?_
    refine lv_istore_n (lv' := [(3, .int (-1)), (2, .int 0), (0, .ref h0), (1, .int p0)]) hx hb dX9_haunt_18 rfl hl (by decide) rfl (fun ls hl => ?_)
    refine lv_iconst (v := 0) hx hb dX9_haunt_19 (by decide) ?_
    refine lv_istore (lv' := [(4, .int 0), (3, .int (-1)), (2, .int 0), (0, .ref h0), (1, .int p0)]) hx hb dX9_haunt_20 hl (by decide) rfl (fun ls hl => ?_)
    have lp10 : ∀ (n11 : Nat) (x12 : Int32) (x13 : Int32) (x14 : Int32), 0 ≤ x12.toInt → (-1) ≤ x13.toInt → 0 ≤ x14.toInt → x14.toInt ≤ 64 → 64 - x14.toInt < (n11 : Int) → ∀ (H : Heap) (locs : List Loc), va_P G vwCl [(h0, oX9 b), (b 4, oX6 bn n_field n_houses), (bn 0, .inl (cI, 287, .inl n_f0)), (bn 1, .inl (cI, 7, .inl n_f1)), (b 1, oX0 bt t_lines t_span t_rule t_odds t_wide t_high t_creeks t_houses t_widows t_acts)] H → va_D A [(h0, oX9 b), (b 4, oX6 bn n_field n_houses), (bn 0, .inl (cI, 287, .inl n_f0)), (bn 1, .inl (cI, 7, .inl n_f1)), (b 1, oX0 bt t_lines t_span t_rule t_odds t_wide t_high t_creeks t_houses t_widows t_acts)] → va_S A s.heap H locs → ∀ (ls : Array Slot), lv_has ls 6 [(4, .int x14), (3, .int x13), (2, .int x12), (0, .ref h0), (1, .int p0)] → W p l e ({ frames := 2, cells := 0, slots := 0, locals := 44 } : Room) s m ([.ref h0, .int p0] : List Value).toArray below meth c H locs 0 0 Q (F0 m 22 ls []) := by
      intro n11
      induction n11 with
      | zero =>
        intro x12 x13 x14 k15 k16 k17 k18 mm20
        exact absurd mm20 (by have q9 := fb_rng x14; omega)
      | succ n11 ih19 =>
        intro x12 x13 x14 k15 k16 k17 k18 mm20 H locs hP hD hS ls hl
        refine lv_iload hx hb dX9_haunt_22 (lv_at hl 0 rfl) ?_
        refine lv_bipush (v := 64) hx hb dX9_haunt_24 (by decide) ?_
        refine lv_icmp_ge (tgt := 59) hx hb dX9_haunt_26 (by decide) (fun c21 => ?_) (fun c21 => ?_)
        · have c21 := i_le ki_64 rfl c21
          refine lv_iload_n hx hb dX9_haunt_59 rfl (lv_at hl 1 rfl) ?_
          refine k_i (wc := []) (wr := [(h0, oX9 b), (b 4, oX6 bn n_field n_houses), (bn 0, .inl (cI, 287, .inl n_f0)), (bn 1, .inl (cI, 7, .inl n_f1)), (b 1, oX0 bt t_lines t_span t_rule t_odds t_wide t_high t_creeks t_houses t_widows t_acts)]) hP hD hS hA [] [0, 1, 2, 3, 4] rfl rfl rfl (by decide) (va_runS (As := [.int x13]) (rest := []) ⟨hx, hb, hml, hown, hts⟩ (f_X9_cellOf l G cI cJ cZ cB cQ _ x13) (va_cwS 1 hts (gS w_672 w_673 w_1 w_674) rfl rfl rfl hd_X9_cellOf ⟨Nat.le_of_ble_eq_true rfl, Nat.le_of_ble_eq_true rfl⟩) (mS hK hZ hP hD [] rfl rfl [.int x13]) rfl rfl hl.1 rfl (lv_room (Nat.le_of_ble_eq_true rfl)) dX9_haunt_60 ⟨Nat.le_of_ble_eq_true rfl, Nat.le_of_ble_eq_true rfl⟩) (fun r22 u23 H locs hw24 hP hD hS => ?_)
          try dsimp only at hw24
          have hP : va_P G vwCl [(h0, oX9 b), (b 4, oX6 bn n_field n_houses), (bn 0, .inl (cI, 287, .inl n_f0)), (bn 1, .inl (cI, 7, .inl n_f1)), (b 1, oX0 bt t_lines t_span t_rule t_odds t_wide t_high t_creeks t_houses t_widows t_acts)] H := hP
          have hD : va_D A [(h0, oX9 b), (b 4, oX6 bn n_field n_houses), (bn 0, .inl (cI, 287, .inl n_f0)), (bn 1, .inl (cI, 7, .inl n_f1)), (b 1, oX0 bt t_lines t_span t_rule t_odds t_wide t_high t_creeks t_houses t_widows t_acts)] := hD
          exact hret _ _ _ _ r22 () (hP.sub (ws' := [(h0, oX9 b), (b 1, oX0 bt t_lines t_span t_rule t_odds t_wide t_high t_creeks t_houses t_widows t_acts), (b 4, oX6 bn n_field n_houses), (bn 0, .inl (cI, 287, .inl n_f0)), (bn 1, .inl (cI, 7, .inl n_f1))]) [0, 4, 1, 2, 3] rfl) (hD.sub (ws' := [(h0, oX9 b), (b 1, oX0 bt t_lines t_span t_rule t_odds t_wide t_high t_creeks t_houses t_widows t_acts), (b 4, oX6 bn n_field n_houses), (bn 0, .inl (cI, 287, .inl n_f0)), (bn 1, .inl (cI, 7, .inl n_f1))]) [0, 4, 1, 2, 3] rfl rfl) hS dX9_haunt_63 trivial
        · have c21 := i_nle ki_64 rfl c21
          refine lv_aload_n hx hb dX9_haunt_29 rfl (lv_at hl 3 rfl) ?_
          refine va_get (D := G) (ci := 9) (v := .ref (b 4)) (C := RX9) (T := TX9) (N := 11) hx hb hts iG_X9 hown hK hP 0 rfl rfl 4 (by decide) (hts _ w_355) (fun _ h9 => h9) rfl dX9_haunt_30 ?_
          refine lv_iload_n hx hb dX9_haunt_33 rfl (lv_at hl 4 rfl) ?_
          refine lv_iload hx hb dX9_haunt_34 (lv_at hl 0 rfl) ?_
          refine k_i (wc := [(b 4, oX6 bn n_field n_houses), (bn 0, .inl (cI, 287, .inl n_f0)), (bn 1, .inl (cI, 7, .inl n_f1))]) (wr := [(h0, oX9 b), (b 1, oX0 bt t_lines t_span t_rule t_odds t_wide t_high t_creeks t_houses t_widows t_acts)]) hP hD hS hA [1, 2, 3] [0, 4] rfl rfl rfl (by decide) (va_runVN (As := [.int p0, .int x14]) (rest := []) ⟨hx, hb, hml, hown, hts⟩ (f_X6_timesAt l G cI cJ cZ cB cQ _ (b 4) p0 x14 bn n_field n_houses n_f0 n_f1 (by omega) (by omega) hl_n_houses hh_n_houses ha_n_f1) ⟨va_cnB (host := "WidowRoads") 2 hts (gW w_718) rfl rfl rfl (nz_nw hZ nw_715 rfl) (hts _ w_6) hd_X6_timesAt ⟨Nat.le_of_ble_eq_true rfl, Nat.le_of_ble_eq_true rfl⟩, (hts _ w_717), (hts _ wp_38)⟩ (mV hK hZ hP hD [1, 2, 3] rfl rfl [.int p0, .int x14] 1 6 rfl rfl) rfl rfl hl.1 rfl (lv_room (Nat.le_of_ble_eq_true rfl)) dX9_haunt_36 ⟨Nat.le_of_ble_eq_true rfl, Nat.le_of_ble_eq_true rfl⟩) (fun r25 u26 H locs hw27 hP hD hS => ?_)
          try dsimp only at hw27
          have hP : va_P G vwCl [(h0, oX9 b), (b 1, oX0 bt t_lines t_span t_rule t_odds t_wide t_high t_creeks t_houses t_widows t_acts), (b 4, oX6 bn n_field n_houses), (bn 0, .inl (cI, 287, .inl n_f0)), (bn 1, .inl (cI, 7, .inl n_f1))] H := hP
          have hD : va_D A [(h0, oX9 b), (b 1, oX0 bt t_lines t_span t_rule t_odds t_wide t_high t_creeks t_houses t_widows t_acts), (b 4, oX6 bn n_field n_houses), (bn 0, .inl (cI, 287, .inl n_f0)), (bn 1, .inl (cI, 7, .inl n_f1))] := hD
          refine lv_istore (lv' := [(5, .int r25), (4, .int x14), (3, .int x13), (2, .int x12), (0, .ref h0), (1, .int p0)]) hx hb dX9_haunt_39 hl (by decide) rfl (fun ls hl => ?_)
          refine lv_iload hx hb dX9_haunt_41 (lv_at hl 0 rfl) ?_
          refine lv_iload_n hx hb dX9_haunt_43 rfl (lv_at hl 3 rfl) ?_
          refine lv_icmp_le (tgt := 53) hx hb dX9_haunt_44 (by decide) (fun c28 => ?_) (fun c28 => ?_)
          · have c28 := i_le rfl rfl c28
            obtain ⟨v29, ev29⟩ : ∃ y : Int32, y = x14 + 1 := ⟨_, rfl⟩
            have tv29 : v29.toInt = x14.toInt + 1 := ti_add rfl ki_1 ev29 (by omega) (by omega)
            refine lv_iinc (v := v29) (lv' := [(4, .int v29), (5, .int r25), (3, .int x13), (2, .int x12), (0, .ref h0), (1, .int p0)]) hx hb dX9_haunt_53 hl (k := 1) rfl (by rw [ev29]; rfl) (by decide) rfl (fun ls hl => ?_)
            refine lv_goto (tgt := 22) hx hb dX9_haunt_56 (by decide) ?_
            exact ih19 x12 x13 v29 k15 k16 (by omega) (by omega) (by omega) _ _ (hP.sub [0, 2, 3, 4, 1] rfl) (hD.sub [0, 2, 3, 4, 1] rfl rfl) hS ls (lv_sub hl [0, 2, 3, 4, 5] rfl)
          · have c28 := i_nle rfl rfl c28
            refine lv_iload hx hb dX9_haunt_47 (lv_at hl 0 rfl) ?_
            refine lv_istore_n (lv' := [(2, .int r25), (5, .int r25), (4, .int x14), (3, .int x13), (0, .ref h0), (1, .int p0)]) hx hb dX9_haunt_49 rfl hl (by decide) rfl (fun ls hl => ?_)
            refine lv_iload hx hb dX9_haunt_50 (lv_at hl 2 rfl) ?_
            refine lv_istore_n (lv' := [(3, .int x14), (2, .int r25), (5, .int r25), (4, .int x14), (0, .ref h0), (1, .int p0)]) hx hb dX9_haunt_52 rfl hl (by decide) rfl (fun ls hl => ?_)
            obtain ⟨v30, ev30⟩ : ∃ y : Int32, y = x14 + 1 := ⟨_, rfl⟩
            have tv30 : v30.toInt = x14.toInt + 1 := ti_add rfl ki_1 ev30 (by omega) (by omega)
            refine lv_iinc (v := v30) (lv' := [(4, .int v30), (3, .int x14), (2, .int r25), (5, .int r25), (0, .ref h0), (1, .int p0)]) hx hb dX9_haunt_53 hl (k := 3) rfl (by rw [ev30]; rfl) (by decide) rfl (fun ls hl => ?_)
            refine lv_goto (tgt := 22) hx hb dX9_haunt_56 (by decide) ?_
            exact ih19 r25 x14 v30 (by omega) (by omega) (by omega) (by omega) (by omega) _ _ (hP.sub [0, 2, 3, 4, 1] rfl) (hD.sub [0, 2, 3, 4, 1] rfl rfl) hS ls (lv_sub hl [0, 1, 2, 4, 5] rfl)
    exact lp10 65 0 (-1) 0 (by rw [ki_0]; decide) (by rw [ki_m1]; decide) (by rw [ki_0]; decide) (by rw [ki_0]; decide) (by rw [ki_0]; decide) _ _ hP hD hS ls (lv_sub hl [0, 1, 2, 3, 4] rfl)
  · skip
    refine lv_if_ne (tgt := 15) hx hb dX9_haunt_9 (by decide) (fun c31 => absurd (by decide) c31) (fun c31 => ?_)
    refine lv_bipush (v := (-2)) hx hb dX9_haunt_12 (by decide) ?_
    exact hret _ _ _ _ (-2) () (hP.sub (ws' := [(h0, oX9 b), (b 1, oX0 bt t_lines t_span t_rule t_odds t_wide t_high t_creeks t_houses t_widows t_acts), (b 4, oX6 bn n_field n_houses), (bn 0, .inl (cI, 287, .inl n_f0)), (bn 1, .inl (cI, 7, .inl n_f1))]) [0, 4, 1, 2, 3] rfl) (hD.sub (ws' := [(h0, oX9 b), (b 1, oX0 bt t_lines t_span t_rule t_odds t_wide t_high t_creeks t_houses t_widows t_acts), (b 4, oX6 bn n_field n_houses), (bn 0, .inl (cI, 287, .inl n_f0)), (bn 1, .inl (cI, 7, .inl n_f1))]) [0, 4, 1, 2, 3] rfl rfl) hS dX9_haunt_14 trivial
set_option maxHeartbeats 4000000 in
set_option maxRecDepth 100000 in
theorem f_X9_evening (l : Launch) (G : va_G) (cI cJ cZ cB cQ : ClassId) (sz : Nat) (h0 : Nat) (p0 : Int32) (b : Nat → Nat) (bt : Nat → Nat) (t_lines : Int32) (t_span : Int32) (t_rule : Int32) (t_odds : Int32) (t_wide : Int32) (t_high : Int32) (t_creeks : Int32) (t_houses : Int32) (t_widows : Int32) (t_acts : Int32) (t_f15 : Nat → Int32) (bn : Nat → Nat) (n_field : Int64) (n_houses : Int32) (n_f1 : Nat → Int32) (hl_t_span : 0 ≤ t_span.toInt) (hh_t_span : t_span.toInt ≤ 12) (hl_t_rule : 0 ≤ t_rule.toInt) (hh_t_rule : t_rule.toInt ≤ 3) (hl_t_odds : 0 ≤ t_odds.toInt) (hh_t_odds : t_odds.toInt ≤ 10) (hl_t_wide : 0 ≤ t_wide.toInt) (hh_t_wide : t_wide.toInt ≤ 8) (hl_t_high : 0 ≤ t_high.toInt) (hh_t_high : t_high.toInt ≤ 8) (hl_t_creeks : 0 ≤ t_creeks.toInt) (hh_t_creeks : t_creeks.toInt ≤ 12) (hl_t_houses : 0 ≤ t_houses.toInt) (hh_t_houses : t_houses.toInt ≤ 6) (hl_t_widows : 0 ≤ t_widows.toInt) (hh_t_widows : t_widows.toInt ≤ 7) (hl_t_acts : 0 ≤ t_acts.toInt) (hh_t_acts : t_acts.toInt ≤ 30) (hl_n_houses : 0 ≤ n_houses.toInt) (hh_n_houses : n_houses.toInt ≤ 6) (ha_n_f1 : ai n_f1 7 (-1) 40) : CI l yX9_evening (wl_ yX9_evening cX9_evening 4 (some .int)) ({ frames := 1, cells := 0, slots := 0, locals := 21 } : Room) G (TY cI cJ cZ cB cQ) [.ref h0, .int p0] [(h0, oX9 b), (b 1, oX0 bt t_lines t_span t_rule t_odds t_wide t_high t_creeks t_houses t_widows t_acts), (bt 15, .inl (cI, 7, .inl t_f15)), (b 4, oX6 bn n_field n_houses), (bn 1, .inl (cI, 7, .inl n_f1))] sz (fun (r : Int32) (u : Unit) => True) (fun _ : Unit => [(h0, oX9 b), (b 1, oX0 bt t_lines t_span t_rule t_odds t_wide t_high t_creeks t_houses t_widows t_acts), (bt 15, .inl (cI, 7, .inl t_f15)), (b 4, oX6 bn n_field n_houses), (bn 1, .inl (cI, 7, .inl n_f1))]) 0 0 := by
  refine CI.go (cc := cX9_evening) (maxL := 4) (ret := (some .int)) (by decide) rfl (Nat.le_of_ble_eq_true rfl) ?_
  intro p e s m below meth c A ls Q hBd hret
  obtain ⟨hx, hb, hr, hml, hts, hown, hlk, hnm, hP, hK, hD, hA, hZ, hl⟩ := hBd
  have hown : s.vm.findClass RX9 = some m.cls := hown
  have hl : lv_has ls 4 [(0, .ref h0), (1, .int p0)] := hl
  have hS : va_S A s.heap s.heap [] := va_S.rf
  refine lv_aload_n hx hb dX9_evening_0 rfl (lv_at hl 0 rfl) ?_
  refine va_get (D := G) (ci := 9) (v := .ref (b 1)) (C := RX9) (T := TX9) (N := 11) hx hb hts iG_X9 hown hK hP 0 rfl rfl 1 (by decide) (hts _ w_352) (fun _ h9 => h9) rfl dX9_evening_1 ?_
  refine lv_iload_n hx hb dX9_evening_4 rfl (lv_at hl 1 rfl) ?_
  refine k_i (wc := [(b 1, oX0 bt t_lines t_span t_rule t_odds t_wide t_high t_creeks t_houses t_widows t_acts)]) (wr := [(h0, oX9 b), (bt 15, .inl (cI, 7, .inl t_f15)), (b 4, oX6 bn n_field n_houses), (bn 1, .inl (cI, 7, .inl n_f1))]) hP hD hS hA [1] [0, 2, 3, 4] rfl rfl rfl (by decide) (va_runVN (As := [.int p0]) (rest := []) ⟨hx, hb, hml, hown, hts⟩ (f_X0_hasYear l G cI cJ cZ cB cQ _ (b 1) p0 p0.toInt bt t_lines t_span t_rule t_odds t_wide t_high t_creeks t_houses t_widows t_acts rfl hl_t_span hh_t_span hl_t_rule hh_t_rule hl_t_odds hh_t_odds hl_t_wide hh_t_wide hl_t_high hh_t_high hl_t_creeks hh_t_creeks hl_t_houses hh_t_houses hl_t_widows hh_t_widows hl_t_acts hh_t_acts) ⟨va_cnB (host := "WidowRoads") 1 hts (gW w_727) rfl rfl rfl (nz_nw hZ nw_724 rfl) (hts _ w_4) hd_X0_hasYear ⟨Nat.le_of_ble_eq_true rfl, Nat.le_of_ble_eq_true rfl⟩, (hts _ w_726), (hts _ wp_39)⟩ (mV hK hZ hP hD [1] rfl rfl [.int p0] 1 0 rfl rfl) rfl rfl hl.1 rfl (lv_room (Nat.le_of_ble_eq_true rfl)) dX9_evening_5 ⟨Nat.le_of_ble_eq_true rfl, Nat.le_of_ble_eq_true rfl⟩) (fun r1 u2 H locs hw3 hP hD hS => ?_)
  try dsimp only at hw3
  have hP : va_P G vwCl [(h0, oX9 b), (bt 15, .inl (cI, 7, .inl t_f15)), (b 4, oX6 bn n_field n_houses), (bn 1, .inl (cI, 7, .inl n_f1)), (b 1, oX0 bt t_lines t_span t_rule t_odds t_wide t_high t_creeks t_houses t_widows t_acts)] H := hP
  have hD : va_D A [(h0, oX9 b), (bt 15, .inl (cI, 7, .inl t_f15)), (b 4, oX6 bn n_field n_houses), (bn 1, .inl (cI, 7, .inl n_f1)), (b 1, oX0 bt t_lines t_span t_rule t_odds t_wide t_high t_creeks t_houses t_widows t_acts)] := hD
  rcases hw3 with ⟨rfl, a5, a6⟩ | rfl
  · skip
    refine lv_if_eq (tgt := 22) hx hb dX9_evening_8 (by decide) (fun c7 => absurd c7 (by decide)) (fun c7 => ?_)
    refine lv_iload_n hx hb dX9_evening_11 rfl (lv_at hl 1 rfl) ?_
    refine lv_aload_n hx hb dX9_evening_12 rfl (lv_at hl 0 rfl) ?_
    refine va_get (D := G) (ci := 9) (v := .ref (b 1)) (C := RX9) (T := TX9) (N := 11) hx hb hts iG_X9 hown hK hP 0 rfl rfl 1 (by decide) (hts _ w_352) (fun _ h9 => h9) rfl dX9_evening_13 ?_
    refine va_getN (D := G) (ci := 0) (v := .int t_span) (C := RX0) (T := TX0) (N := 19) hx hb hts iG_X0 hown hK hP 4 rfl rfl 1 (by decide) (nz_use hZ nw_62 rfl) (fun _ h9 => h9) rfl dX9_evening_16 ?_
    refine lv_icmp_ne (tgt := 25) hx hb dX9_evening_19 (by decide) (fun c8 => ?_) (fun c8 => ?_)
    · have c8 := i_ne rfl rfl c8
      refine lv_iconst (v := 0) hx hb dX9_evening_25 (by decide) ?_
      refine lv_istore_n (lv' := [(2, .int 0), (0, .ref h0), (1, .int p0)]) hx hb dX9_evening_26 rfl hl (by decide) rfl (fun ls hl => ?_)
      refine lv_iconst (v := 0) hx hb dX9_evening_27 (by decide) ?_
      refine lv_istore_n (lv' := [(3, .int 0), (2, .int 0), (0, .ref h0), (1, .int p0)]) hx hb dX9_evening_28 rfl hl (by decide) rfl (fun ls hl => ?_)
      have lp9 : ∀ (n10 : Nat) (x11 : Int32) (x12 : Int32), 0 ≤ x12.toInt → x12.toInt ≤ 7 → 7 - x12.toInt < (n10 : Int) → ∀ (H : Heap) (locs : List Loc), va_P G vwCl [(h0, oX9 b), (bt 15, .inl (cI, 7, .inl t_f15)), (b 4, oX6 bn n_field n_houses), (bn 1, .inl (cI, 7, .inl n_f1)), (b 1, oX0 bt t_lines t_span t_rule t_odds t_wide t_high t_creeks t_houses t_widows t_acts)] H → va_D A [(h0, oX9 b), (bt 15, .inl (cI, 7, .inl t_f15)), (b 4, oX6 bn n_field n_houses), (bn 1, .inl (cI, 7, .inl n_f1)), (b 1, oX0 bt t_lines t_span t_rule t_odds t_wide t_high t_creeks t_houses t_widows t_acts)] → va_S A s.heap H locs → ∀ (ls : Array Slot), lv_has ls 4 [(3, .int x12), (2, .int x11), (0, .ref h0), (1, .int p0)] → W p l e ({ frames := 1, cells := 0, slots := 0, locals := 21 } : Room) s m ([.ref h0, .int p0] : List Value).toArray below meth c H locs 0 0 Q (F0 m 29 ls []) := by
        intro n10
        induction n10 with
        | zero =>
          intro x11 x12 k13 k14 mm16
          exact absurd mm16 (by have q9 := fb_rng x12; omega)
        | succ n10 ih15 =>
          intro x11 x12 k13 k14 mm16 H locs hP hD hS ls hl
          refine lv_iload_n hx hb dX9_evening_29 rfl (lv_at hl 0 rfl) ?_
          refine lv_aload_n hx hb dX9_evening_30 rfl (lv_at hl 2 rfl) ?_
          refine va_get (D := G) (ci := 9) (v := .ref (b 1)) (C := RX9) (T := TX9) (N := 11) hx hb hts iG_X9 hown hK hP 0 rfl rfl 1 (by decide) (hts _ w_352) (fun _ h9 => h9) rfl dX9_evening_31 ?_
          refine va_getN (D := G) (ci := 0) (v := .int t_widows) (C := RX0) (T := TX0) (N := 19) hx hb hts iG_X0 hown hK hP 4 rfl rfl 8 (by decide) (nz_use hZ nw_88 rfl) (fun _ h9 => h9) rfl dX9_evening_34 ?_
          refine lv_icmp_ge (tgt := 76) hx hb dX9_evening_37 (by decide) (fun c17 => ?_) (fun c17 => ?_)
          · have c17 := i_le rfl rfl c17
            refine lv_iload_n hx hb dX9_evening_76 rfl (lv_at hl 1 rfl) ?_
            exact hret _ _ _ _ x11 () (hP.sub (ws' := [(h0, oX9 b), (b 1, oX0 bt t_lines t_span t_rule t_odds t_wide t_high t_creeks t_houses t_widows t_acts), (bt 15, .inl (cI, 7, .inl t_f15)), (b 4, oX6 bn n_field n_houses), (bn 1, .inl (cI, 7, .inl n_f1))]) [0, 4, 1, 2, 3] rfl) (hD.sub (ws' := [(h0, oX9 b), (b 1, oX0 bt t_lines t_span t_rule t_odds t_wide t_high t_creeks t_houses t_widows t_acts), (bt 15, .inl (cI, 7, .inl t_f15)), (b 4, oX6 bn n_field n_houses), (bn 1, .inl (cI, 7, .inl n_f1))]) [0, 4, 1, 2, 3] rfl rfl) hS dX9_evening_77 trivial
          · have c17 := i_nle rfl rfl c17
            refine lv_aload_n hx hb dX9_evening_40 rfl (lv_at hl 2 rfl) ?_
            refine va_get (D := G) (ci := 9) (v := .ref (b 1)) (C := RX9) (T := TX9) (N := 11) hx hb hts iG_X9 hown hK hP 0 rfl rfl 1 (by decide) (hts _ w_352) (fun _ h9 => h9) rfl dX9_evening_41 ?_
            refine va_getN (D := G) (ci := 0) (v := .ref (bt 15)) (C := RX0) (T := TX0) (N := 19) hx hb hts iG_X0 hown hK hP 4 rfl rfl 15 (by decide) (nz_use hZ nw_111 rfl) (fun _ h9 => h9) rfl dX9_evening_44 ?_
            refine lv_iload_n hx hb dX9_evening_47 rfl (lv_at hl 0 rfl) ?_
            refine va_iald hx hb hK hP 1 0 rfl rfl (ix_in rfl (by omega) (by omega)) dX9_evening_48 ?_
            refine lv_topi (fun v18 ev18 => ?_)
            refine lv_iload_n hx hb dX9_evening_49 rfl (lv_at hl 3 rfl) ?_
            refine lv_icmp_ne (tgt := 70) hx hb dX9_evening_50 (by decide) (fun c19 => ?_) (fun c19 => ?_)
            · have c19 := i_ne rfl rfl c19
              obtain ⟨v20, ev20⟩ : ∃ y : Int32, y = x12 + 1 := ⟨_, rfl⟩
              have tv20 : v20.toInt = x12.toInt + 1 := ti_add rfl ki_1 ev20 (by omega) (by omega)
              refine lv_iinc (v := v20) (lv' := [(3, .int v20), (2, .int x11), (0, .ref h0), (1, .int p0)]) hx hb dX9_evening_70 hl (k := 0) rfl (by rw [ev20]; rfl) (by decide) rfl (fun ls hl => ?_)
              refine lv_goto (tgt := 29) hx hb dX9_evening_73 (by decide) ?_
              exact ih15 x11 v20 (by omega) (by omega) (by omega) _ _ hP hD hS ls (lv_sub hl [0, 1, 2, 3] rfl)
            · have c19 := i_eq rfl rfl c19
              refine lv_aload_n hx hb dX9_evening_53 rfl (lv_at hl 2 rfl) ?_
              refine va_get (D := G) (ci := 9) (v := .ref (b 4)) (C := RX9) (T := TX9) (N := 11) hx hb hts iG_X9 hown hK hP 0 rfl rfl 4 (by decide) (hts _ w_355) (fun _ h9 => h9) rfl dX9_evening_54 ?_
              refine lv_iload_n hx hb dX9_evening_57 rfl (lv_at hl 0 rfl) ?_
              refine k_i (wc := [(b 4, oX6 bn n_field n_houses), (bn 1, .inl (cI, 7, .inl n_f1))]) (wr := [(h0, oX9 b), (bt 15, .inl (cI, 7, .inl t_f15)), (b 1, oX0 bt t_lines t_span t_rule t_odds t_wide t_high t_creeks t_houses t_widows t_acts)]) hP hD hS hA [2, 3] [0, 1, 4] rfl rfl rfl (by decide) (va_runVN (As := [.int x12]) (rest := []) ⟨hx, hb, hml, hown, hts⟩ (f_X6_walks l G cI cJ cZ cB cQ _ (b 4) x12 bn n_field n_houses n_f1 k13 (by omega) hl_n_houses hh_n_houses ha_n_f1) ⟨va_cnB (host := "WidowRoads") 1 hts (gW w_702) rfl rfl rfl (nz_nw hZ nw_699 rfl) (hts _ w_6) hd_X6_walks ⟨Nat.le_of_ble_eq_true rfl, Nat.le_of_ble_eq_true rfl⟩, (hts _ w_701), (hts _ wp_37)⟩ (mV hK hZ hP hD [2, 3] rfl rfl [.int x12] 2 6 rfl rfl) rfl rfl hl.1 rfl (lv_room (Nat.le_of_ble_eq_true rfl)) dX9_evening_58 ⟨Nat.le_of_ble_eq_true rfl, Nat.le_of_ble_eq_true rfl⟩) (fun r21 u22 H locs hw23 hP hD hS => ?_)
              try dsimp only at hw23
              have hP : va_P G vwCl [(h0, oX9 b), (bt 15, .inl (cI, 7, .inl t_f15)), (b 1, oX0 bt t_lines t_span t_rule t_odds t_wide t_high t_creeks t_houses t_widows t_acts), (b 4, oX6 bn n_field n_houses), (bn 1, .inl (cI, 7, .inl n_f1))] H := hP
              have hD : va_D A [(h0, oX9 b), (bt 15, .inl (cI, 7, .inl t_f15)), (b 1, oX0 bt t_lines t_span t_rule t_odds t_wide t_high t_creeks t_houses t_widows t_acts), (b 4, oX6 bn n_field n_houses), (bn 1, .inl (cI, 7, .inl n_f1))] := hD
              rcases hw23 with ⟨rfl, a25⟩ | ⟨rfl, a26⟩
              · skip
                refine lv_if_eq (tgt := 70) hx hb dX9_evening_61 (by decide) (fun c27 => absurd c27 (by decide)) (fun c27 => ?_)
                refine lv_iload_n hx hb dX9_evening_64 rfl (lv_at hl 1 rfl) ?_
                refine lv_iconst (v := 1) hx hb dX9_evening_65 (by decide) ?_
                refine lv_iload_n hx hb dX9_evening_66 rfl (lv_at hl 0 rfl) ?_
                refine lv_ishl hx hb dX9_evening_67 ?_
                refine lv_topi (fun v28 ev28 => ?_)
                obtain ⟨sa29, sb30⟩ : 1 ≤ v28.toInt ∧ v28.toInt ≤ 64 := shl1 6 rfl (by omega) (by omega) (by decide) ev28
                refine lv_ior hx hb dX9_evening_68 ?_
                refine lv_topi (fun v31 ev31 => ?_)
                refine lv_istore_n (lv' := [(2, .int v31), (3, .int x12), (0, .ref h0), (1, .int p0)]) hx hb dX9_evening_69 rfl hl (by decide) rfl (fun ls hl => ?_)
                obtain ⟨v32, ev32⟩ : ∃ y : Int32, y = x12 + 1 := ⟨_, rfl⟩
                have tv32 : v32.toInt = x12.toInt + 1 := ti_add rfl ki_1 ev32 (by omega) (by omega)
                refine lv_iinc (v := v32) (lv' := [(3, .int v32), (2, .int v31), (0, .ref h0), (1, .int p0)]) hx hb dX9_evening_70 hl (k := 1) rfl (by rw [ev32]; rfl) (by decide) rfl (fun ls hl => ?_)
                refine lv_goto (tgt := 29) hx hb dX9_evening_73 (by decide) ?_
                exact ih15 v31 v32 (by omega) (by omega) (by omega) _ _ (hP.sub [0, 1, 3, 4, 2] rfl) (hD.sub [0, 1, 3, 4, 2] rfl rfl) hS ls (lv_sub hl [0, 1, 2, 3] rfl)
              · skip
                refine lv_if_eq (tgt := 70) hx hb dX9_evening_61 (by decide) (fun c33 => ?_) (fun c33 => absurd (by decide) c33)
                obtain ⟨v34, ev34⟩ : ∃ y : Int32, y = x12 + 1 := ⟨_, rfl⟩
                have tv34 : v34.toInt = x12.toInt + 1 := ti_add rfl ki_1 ev34 (by omega) (by omega)
                refine lv_iinc (v := v34) (lv' := [(3, .int v34), (2, .int x11), (0, .ref h0), (1, .int p0)]) hx hb dX9_evening_70 hl (k := 0) rfl (by rw [ev34]; rfl) (by decide) rfl (fun ls hl => ?_)
                refine lv_goto (tgt := 29) hx hb dX9_evening_73 (by decide) ?_
                exact ih15 x11 v34 (by omega) (by omega) (by omega) _ _ (hP.sub [0, 1, 3, 4, 2] rfl) (hD.sub [0, 1, 3, 4, 2] rfl rfl) hS ls (lv_sub hl [0, 1, 2, 3] rfl)
      exact lp9 8 0 0 (by rw [ki_0]; decide) (by rw [ki_0]; decide) (by rw [ki_0]; decide) _ _ hP hD hS ls (lv_sub hl [0, 1, 2, 3] rfl)
    · have c8 := i_eq rfl rfl c8
      refine lv_bipush (v := (-2)) hx hb dX9_evening_22 (by decide) ?_
      exact hret _ _ _ _ (-2) () (hP.sub (ws' := [(h0, oX9 b), (b 1, oX0 bt t_lines t_span t_rule t_odds t_wide t_high t_creeks t_houses t_widows t_acts), (bt 15, .inl (cI, 7, .inl t_f15)), (b 4, oX6 bn n_field n_houses), (bn 1, .inl (cI, 7, .inl n_f1))]) [0, 4, 1, 2, 3] rfl) (hD.sub (ws' := [(h0, oX9 b), (b 1, oX0 bt t_lines t_span t_rule t_odds t_wide t_high t_creeks t_houses t_widows t_acts), (bt 15, .inl (cI, 7, .inl t_f15)), (b 4, oX6 bn n_field n_houses), (bn 1, .inl (cI, 7, .inl n_f1))]) [0, 4, 1, 2, 3] rfl rfl) hS dX9_evening_24 trivial
  · skip
    refine lv_if_eq (tgt := 22) hx hb dX9_evening_8 (by decide) (fun c35 => ?_) (fun c35 => absurd (by decide) c35)
    refine lv_bipush (v := (-2)) hx hb dX9_evening_22 (by decide) ?_
    exact hret _ _ _ _ (-2) () (hP.sub (ws' := [(h0, oX9 b), (b 1, oX0 bt t_lines t_span t_rule t_odds t_wide t_high t_creeks t_houses t_widows t_acts), (bt 15, .inl (cI, 7, .inl t_f15)), (b 4, oX6 bn n_field n_houses), (bn 1, .inl (cI, 7, .inl n_f1))]) [0, 4, 1, 2, 3] rfl) (hD.sub (ws' := [(h0, oX9 b), (b 1, oX0 bt t_lines t_span t_rule t_odds t_wide t_high t_creeks t_houses t_widows t_acts), (bt 15, .inl (cI, 7, .inl t_f15)), (b 4, oX6 bn n_field n_houses), (bn 1, .inl (cI, 7, .inl n_f1))]) [0, 4, 1, 2, 3] rfl rfl) hS dX9_evening_24 trivial
set_option maxHeartbeats 4000000 in
set_option maxRecDepth 100000 in
theorem f_X9_visits (l : Launch) (G : va_G) (cI cJ cZ cB cQ : ClassId) (sz : Nat) (h0 : Nat) (p0 : Int32) (p1 : Int32) (b : Nat → Nat) (bt : Nat → Nat) (t_lines : Int32) (t_span : Int32) (t_rule : Int32) (t_odds : Int32) (t_wide : Int32) (t_high : Int32) (t_creeks : Int32) (t_houses : Int32) (t_widows : Int32) (t_acts : Int32) (bn : Nat → Nat) (n_field : Int64) (n_houses : Int32) (n_f0 : Nat → Int32) (n_f1 : Nat → Int32) (hl_t_span : 0 ≤ t_span.toInt) (hh_t_span : t_span.toInt ≤ 12) (hl_t_rule : 0 ≤ t_rule.toInt) (hh_t_rule : t_rule.toInt ≤ 3) (hl_t_odds : 0 ≤ t_odds.toInt) (hh_t_odds : t_odds.toInt ≤ 10) (hl_t_wide : 0 ≤ t_wide.toInt) (hh_t_wide : t_wide.toInt ≤ 8) (hl_t_high : 0 ≤ t_high.toInt) (hh_t_high : t_high.toInt ≤ 8) (hl_t_creeks : 0 ≤ t_creeks.toInt) (hh_t_creeks : t_creeks.toInt ≤ 12) (hl_t_houses : 0 ≤ t_houses.toInt) (hh_t_houses : t_houses.toInt ≤ 6) (hl_t_widows : 0 ≤ t_widows.toInt) (hh_t_widows : t_widows.toInt ≤ 7) (hl_t_acts : 0 ≤ t_acts.toInt) (hh_t_acts : t_acts.toInt ≤ 30) (hl_n_houses : 0 ≤ n_houses.toInt) (hh_n_houses : n_houses.toInt ≤ 6) (ha_n_f1 : ai n_f1 7 (-1) 40) : CI l yX9_visits (wl_ yX9_visits cX9_visits 4 (some .int)) ({ frames := 2, cells := 0, slots := 0, locals := 44 } : Room) G (TY cI cJ cZ cB cQ) [.ref h0, .int p0, .int p1] [(h0, oX9 b), (b 1, oX0 bt t_lines t_span t_rule t_odds t_wide t_high t_creeks t_houses t_widows t_acts), (b 4, oX6 bn n_field n_houses), (bn 0, .inl (cI, 287, .inl n_f0)), (bn 1, .inl (cI, 7, .inl n_f1))] sz (fun (r : Int32) (u : Unit) => True) (fun _ : Unit => [(h0, oX9 b), (b 1, oX0 bt t_lines t_span t_rule t_odds t_wide t_high t_creeks t_houses t_widows t_acts), (b 4, oX6 bn n_field n_houses), (bn 0, .inl (cI, 287, .inl n_f0)), (bn 1, .inl (cI, 7, .inl n_f1))]) 0 0 := by
  refine CI.go (cc := cX9_visits) (maxL := 4) (ret := (some .int)) (by decide) rfl (Nat.le_of_ble_eq_true rfl) ?_
  intro p e s m below meth c A ls Q hBd hret
  obtain ⟨hx, hb, hr, hml, hts, hown, hlk, hnm, hP, hK, hD, hA, hZ, hl⟩ := hBd
  have hown : s.vm.findClass RX9 = some m.cls := hown
  have hl : lv_has ls 4 [(0, .ref h0), (1, .int p0), (2, .int p1)] := hl
  have hS : va_S A s.heap s.heap [] := va_S.rf
  refine lv_aload_n hx hb dX9_visits_0 rfl (lv_at hl 0 rfl) ?_
  refine va_get (D := G) (ci := 9) (v := .ref (b 1)) (C := RX9) (T := TX9) (N := 11) hx hb hts iG_X9 hown hK hP 0 rfl rfl 1 (by decide) (hts _ w_352) (fun _ h9 => h9) rfl dX9_visits_1 ?_
  refine lv_iload_n hx hb dX9_visits_4 rfl (lv_at hl 2 rfl) ?_
  obtain ⟨v1, ev1⟩ : ∃ y : Int64, p1.toInt64 = y := ⟨_, rfl⟩
  have tv1 : v1.toInt = p1.toInt := ti_wide rfl ev1
  refine lv_i2l (v := v1) hx hb dX9_visits_5 ev1 ?_
  refine k_i (wc := [(b 1, oX0 bt t_lines t_span t_rule t_odds t_wide t_high t_creeks t_houses t_widows t_acts)]) (wr := [(h0, oX9 b), (b 4, oX6 bn n_field n_houses), (bn 0, .inl (cI, 287, .inl n_f0)), (bn 1, .inl (cI, 7, .inl n_f1))]) hP hD hS hA [1] [0, 2, 3, 4] rfl rfl rfl (by decide) (va_runVN (As := [.long v1]) (rest := []) ⟨hx, hb, hml, hown, hts⟩ (f_X0_spotOf l G cI cJ cZ cB cQ _ (b 1) v1 bt t_lines t_span t_rule t_odds t_wide t_high t_creeks t_houses t_widows t_acts hl_t_span hh_t_span hl_t_rule hh_t_rule hl_t_odds hh_t_odds hl_t_wide hh_t_wide hl_t_high hh_t_high hl_t_creeks hh_t_creeks hl_t_houses hh_t_houses hl_t_widows hh_t_widows hl_t_acts hh_t_acts) ⟨va_cnB (host := "WidowRoads") 1 hts (gW w_656) rfl rfl rfl (nz_nw hZ nw_653 rfl) (hts _ w_4) hd_X0_spotOf ⟨Nat.le_of_ble_eq_true rfl, Nat.le_of_ble_eq_true rfl⟩, (hts _ w_655), (hts _ wp_34)⟩ (mV hK hZ hP hD [1] rfl rfl [.long v1] 1 0 rfl rfl) rfl rfl hl.1 rfl (lv_room (Nat.le_of_ble_eq_true rfl)) dX9_visits_6 ⟨Nat.le_of_ble_eq_true rfl, Nat.le_of_ble_eq_true rfl⟩) (fun r2 u3 H locs hw4 hP hD hS => ?_)
  try dsimp only at hw4
  have hP : va_P G vwCl [(h0, oX9 b), (b 4, oX6 bn n_field n_houses), (bn 0, .inl (cI, 287, .inl n_f0)), (bn 1, .inl (cI, 7, .inl n_f1)), (b 1, oX0 bt t_lines t_span t_rule t_odds t_wide t_high t_creeks t_houses t_widows t_acts)] H := hP
  have hD : va_D A [(h0, oX9 b), (b 4, oX6 bn n_field n_houses), (bn 0, .inl (cI, 287, .inl n_f0)), (bn 1, .inl (cI, 7, .inl n_f1)), (b 1, oX0 bt t_lines t_span t_rule t_odds t_wide t_high t_creeks t_houses t_widows t_acts)] := hD
  refine lv_istore_n (lv' := [(3, .int r2), (0, .ref h0), (1, .int p0), (2, .int p1)]) hx hb dX9_visits_9 rfl hl (by decide) rfl (fun ls hl => ?_)
  refine lv_aload_n hx hb dX9_visits_10 rfl (lv_at hl 1 rfl) ?_
  refine va_get (D := G) (ci := 9) (v := .ref (b 1)) (C := RX9) (T := TX9) (N := 11) hx hb hts iG_X9 hown hK hP 0 rfl rfl 1 (by decide) (hts _ w_352) (fun _ h9 => h9) rfl dX9_visits_11 ?_
  refine lv_iload_n hx hb dX9_visits_14 rfl (lv_at hl 2 rfl) ?_
  obtain ⟨v5, ev5⟩ : ∃ y : Int64, p0.toInt64 = y := ⟨_, rfl⟩
  have tv5 : v5.toInt = p0.toInt := ti_wide rfl ev5
  refine lv_i2l (v := v5) hx hb dX9_visits_15 ev5 ?_
  refine k_i (wc := [(b 1, oX0 bt t_lines t_span t_rule t_odds t_wide t_high t_creeks t_houses t_widows t_acts)]) (wr := [(h0, oX9 b), (b 4, oX6 bn n_field n_houses), (bn 0, .inl (cI, 287, .inl n_f0)), (bn 1, .inl (cI, 7, .inl n_f1))]) hP hD hS hA [4] [0, 1, 2, 3] rfl rfl rfl (by decide) (va_runVN (As := [.long v5]) (rest := []) ⟨hx, hb, hml, hown, hts⟩ (f_X0_hasWidow l G cI cJ cZ cB cQ _ (b 1) v5 p0.toInt bt t_lines t_span t_rule t_odds t_wide t_high t_creeks t_houses t_widows t_acts tv5 hl_t_span hh_t_span hl_t_rule hh_t_rule hl_t_odds hh_t_odds hl_t_wide hh_t_wide hl_t_high hh_t_high hl_t_creeks hh_t_creeks hl_t_houses hh_t_houses hl_t_widows hh_t_widows hl_t_acts hh_t_acts) ⟨va_cnB (host := "WidowRoads") 1 hts (gW w_671) rfl rfl rfl (nz_nw hZ nw_668 rfl) (hts _ w_4) hd_X0_hasWidow ⟨Nat.le_of_ble_eq_true rfl, Nat.le_of_ble_eq_true rfl⟩, (hts _ w_670), (hts _ wp_35)⟩ (mV hK hZ hP hD [4] rfl rfl [.long v5] 4 0 rfl rfl) rfl rfl hl.1 rfl (lv_room (Nat.le_of_ble_eq_true rfl)) dX9_visits_16 ⟨Nat.le_of_ble_eq_true rfl, Nat.le_of_ble_eq_true rfl⟩) (fun r6 u7 H locs hw8 hP hD hS => ?_)
  try dsimp only at hw8
  have hP : va_P G vwCl [(h0, oX9 b), (b 4, oX6 bn n_field n_houses), (bn 0, .inl (cI, 287, .inl n_f0)), (bn 1, .inl (cI, 7, .inl n_f1)), (b 1, oX0 bt t_lines t_span t_rule t_odds t_wide t_high t_creeks t_houses t_widows t_acts)] H := hP
  have hD : va_D A [(h0, oX9 b), (b 4, oX6 bn n_field n_houses), (bn 0, .inl (cI, 287, .inl n_f0)), (bn 1, .inl (cI, 7, .inl n_f1)), (b 1, oX0 bt t_lines t_span t_rule t_odds t_wide t_high t_creeks t_houses t_widows t_acts)] := hD
  rcases hw8 with ⟨rfl, a10, a11⟩ | ⟨rfl, a12⟩
  · skip
    refine lv_if_eq (tgt := 27) hx hb dX9_visits_19 (by decide) (fun c13 => absurd c13 (by decide)) (fun c13 => ?_)
    refine lv_iload_n hx hb dX9_visits_22 rfl (lv_at hl 0 rfl) ?_
    refine lv_iconst (v := (-1)) hx hb dX9_visits_23 (by decide) ?_
    refine lv_icmp_ne (tgt := 30) hx hb dX9_visits_24 (by decide) (fun c14 => ?_) (fun c14 => ?_)
    · have c14 := i_ne rfl ki_m1 c14
      refine lv_aload_n hx hb dX9_visits_30 rfl (lv_at hl 1 rfl) ?_
      refine va_get (D := G) (ci := 9) (v := .ref (b 4)) (C := RX9) (T := TX9) (N := 11) hx hb hts iG_X9 hown hK hP 0 rfl rfl 4 (by decide) (hts _ w_355) (fun _ h9 => h9) rfl dX9_visits_31 ?_
      refine lv_iload_n hx hb dX9_visits_34 rfl (lv_at hl 2 rfl) ?_
      refine lv_iload_n hx hb dX9_visits_35 rfl (lv_at hl 0 rfl) ?_
      refine k_i (wc := [(b 4, oX6 bn n_field n_houses), (bn 0, .inl (cI, 287, .inl n_f0)), (bn 1, .inl (cI, 7, .inl n_f1))]) (wr := [(h0, oX9 b), (b 1, oX0 bt t_lines t_span t_rule t_odds t_wide t_high t_creeks t_houses t_widows t_acts)]) hP hD hS hA [1, 2, 3] [0, 4] rfl rfl rfl (by decide) (va_runVN (As := [.int p0, .int r2]) (rest := []) ⟨hx, hb, hml, hown, hts⟩ (f_X6_timesAt l G cI cJ cZ cB cQ _ (b 4) p0 r2 bn n_field n_houses n_f0 n_f1 (by omega) (by omega) hl_n_houses hh_n_houses ha_n_f1) ⟨va_cnB (host := "WidowRoads") 2 hts (gW w_718) rfl rfl rfl (nz_nw hZ nw_715 rfl) (hts _ w_6) hd_X6_timesAt ⟨Nat.le_of_ble_eq_true rfl, Nat.le_of_ble_eq_true rfl⟩, (hts _ w_717), (hts _ wp_38)⟩ (mV hK hZ hP hD [1, 2, 3] rfl rfl [.int p0, .int r2] 1 6 rfl rfl) rfl rfl hl.1 rfl (lv_room (Nat.le_of_ble_eq_true rfl)) dX9_visits_36 ⟨Nat.le_of_ble_eq_true rfl, Nat.le_of_ble_eq_true rfl⟩) (fun r15 u16 H locs hw17 hP hD hS => ?_)
      try dsimp only at hw17
      have hP : va_P G vwCl [(h0, oX9 b), (b 1, oX0 bt t_lines t_span t_rule t_odds t_wide t_high t_creeks t_houses t_widows t_acts), (b 4, oX6 bn n_field n_houses), (bn 0, .inl (cI, 287, .inl n_f0)), (bn 1, .inl (cI, 7, .inl n_f1))] H := hP
      have hD : va_D A [(h0, oX9 b), (b 1, oX0 bt t_lines t_span t_rule t_odds t_wide t_high t_creeks t_houses t_widows t_acts), (b 4, oX6 bn n_field n_houses), (bn 0, .inl (cI, 287, .inl n_f0)), (bn 1, .inl (cI, 7, .inl n_f1))] := hD
      exact hret _ _ _ _ r15 () hP hD hS dX9_visits_39 trivial
    · have c14 := i_eq rfl ki_m1 c14
      refine lv_bipush (v := (-2)) hx hb dX9_visits_27 (by decide) ?_
      exact hret _ _ _ _ (-2) () (hP.sub (ws' := [(h0, oX9 b), (b 1, oX0 bt t_lines t_span t_rule t_odds t_wide t_high t_creeks t_houses t_widows t_acts), (b 4, oX6 bn n_field n_houses), (bn 0, .inl (cI, 287, .inl n_f0)), (bn 1, .inl (cI, 7, .inl n_f1))]) [0, 4, 1, 2, 3] rfl) (hD.sub (ws' := [(h0, oX9 b), (b 1, oX0 bt t_lines t_span t_rule t_odds t_wide t_high t_creeks t_houses t_widows t_acts), (b 4, oX6 bn n_field n_houses), (bn 0, .inl (cI, 287, .inl n_f0)), (bn 1, .inl (cI, 7, .inl n_f1))]) [0, 4, 1, 2, 3] rfl rfl) hS dX9_visits_29 trivial
  · skip
    refine lv_if_eq (tgt := 27) hx hb dX9_visits_19 (by decide) (fun c18 => ?_) (fun c18 => absurd (by decide) c18)
    refine lv_bipush (v := (-2)) hx hb dX9_visits_27 (by decide) ?_
    exact hret _ _ _ _ (-2) () (hP.sub (ws' := [(h0, oX9 b), (b 1, oX0 bt t_lines t_span t_rule t_odds t_wide t_high t_creeks t_houses t_widows t_acts), (b 4, oX6 bn n_field n_houses), (bn 0, .inl (cI, 287, .inl n_f0)), (bn 1, .inl (cI, 7, .inl n_f1))]) [0, 4, 1, 2, 3] rfl) (hD.sub (ws' := [(h0, oX9 b), (b 1, oX0 bt t_lines t_span t_rule t_odds t_wide t_high t_creeks t_houses t_widows t_acts), (b 4, oX6 bn n_field n_houses), (bn 0, .inl (cI, 287, .inl n_f0)), (bn 1, .inl (cI, 7, .inl n_f1))]) [0, 4, 1, 2, 3] rfl rfl) hS dX9_visits_29 trivial
set_option maxHeartbeats 4000000 in
set_option maxRecDepth 100000 in
theorem f_X9_straight (l : Launch) (G : va_G) (cI cJ cZ cB cQ : ClassId) (sz : Nat) (h0 : Nat) (p0 : Int32) (b : Nat → Nat) (bt : Nat → Nat) (t_lines : Int32) (t_span : Int32) (t_rule : Int32) (t_odds : Int32) (t_wide : Int32) (t_high : Int32) (t_creeks : Int32) (t_houses : Int32) (t_widows : Int32) (t_acts : Int32) (t_f10 : Nat → Int32) (t_f18 : Nat → Int32) (bn : Nat → Nat) (n_field : Int64) (n_houses : Int32) (n_f0 : Nat → Int32) (n_f1 : Nat → Int32) (k_cells : Int64) (k_across : Int64) (k_down : Int64) (hl_t_span : 0 ≤ t_span.toInt) (hh_t_span : t_span.toInt ≤ 12) (hl_t_rule : 0 ≤ t_rule.toInt) (hh_t_rule : t_rule.toInt ≤ 3) (hl_t_odds : 0 ≤ t_odds.toInt) (hh_t_odds : t_odds.toInt ≤ 10) (hl_t_wide : 0 ≤ t_wide.toInt) (hh_t_wide : t_wide.toInt ≤ 8) (hl_t_high : 0 ≤ t_high.toInt) (hh_t_high : t_high.toInt ≤ 8) (hl_t_creeks : 0 ≤ t_creeks.toInt) (hh_t_creeks : t_creeks.toInt ≤ 12) (hl_t_houses : 0 ≤ t_houses.toInt) (hh_t_houses : t_houses.toInt ≤ 6) (hl_t_widows : 0 ≤ t_widows.toInt) (hh_t_widows : t_widows.toInt ≤ 7) (hl_t_acts : 0 ≤ t_acts.toInt) (hh_t_acts : t_acts.toInt ≤ 30) (hl_n_houses : 0 ≤ n_houses.toInt) (hh_n_houses : n_houses.toInt ≤ 6) (ha_n_f1 : ai n_f1 7 (-1) 40) : CI l yX9_straight (wl_ yX9_straight cX9_straight 3 (some .int)) ({ frames := 3, cells := 0, slots := 0, locals := 77 } : Room) G (TY cI cJ cZ cB cQ) [.ref h0, .int p0] [(h0, oX9 b), (b 1, oX0 bt t_lines t_span t_rule t_odds t_wide t_high t_creeks t_houses t_widows t_acts), (bt 10, .inl (cI, 12, .inl t_f10)), (bt 18, .inl (cI, 30, .inl t_f18)), (b 4, oX6 bn n_field n_houses), (bn 0, .inl (cI, 287, .inl n_f0)), (bn 1, .inl (cI, 7, .inl n_f1)), (b 7, oX3 z0 k_cells k_across k_down)] sz (fun (r : Int32) (u : Int64 × Int64 × Int64) => True) (fun u : Int64 × Int64 × Int64 => [(h0, oX9 b), (b 1, oX0 bt t_lines t_span t_rule t_odds t_wide t_high t_creeks t_houses t_widows t_acts), (bt 10, .inl (cI, 12, .inl t_f10)), (bt 18, .inl (cI, 30, .inl t_f18)), (b 4, oX6 bn n_field n_houses), (bn 0, .inl (cI, 287, .inl n_f0)), (bn 1, .inl (cI, 7, .inl n_f1)), (b 7, oX3 z0 u.1 u.2.1 u.2.2)]) 0 0 := by
  refine CI.go (cc := cX9_straight) (maxL := 3) (ret := (some .int)) (by decide) rfl (Nat.le_of_ble_eq_true rfl) ?_
  intro p e s m below meth c A ls Q hBd hret
  obtain ⟨hx, hb, hr, hml, hts, hown, hlk, hnm, hP, hK, hD, hA, hZ, hl⟩ := hBd
  have hown : s.vm.findClass RX9 = some m.cls := hown
  have hl : lv_has ls 3 [(0, .ref h0), (1, .int p0)] := hl
  have hS : va_S A s.heap s.heap [] := va_S.rf
  refine lv_aload_n hx hb dX9_straight_0 rfl (lv_at hl 0 rfl) ?_
  refine va_get (D := G) (ci := 9) (v := .ref (b 1)) (C := RX9) (T := TX9) (N := 11) hx hb hts iG_X9 hown hK hP 0 rfl rfl 1 (by decide) (hts _ w_352) (fun _ h9 => h9) rfl dX9_straight_1 ?_
  refine lv_iload_n hx hb dX9_straight_4 rfl (lv_at hl 1 rfl) ?_
  obtain ⟨v1, ev1⟩ : ∃ y : Int64, p0.toInt64 = y := ⟨_, rfl⟩
  have tv1 : v1.toInt = p0.toInt := ti_wide rfl ev1
  refine lv_i2l (v := v1) hx hb dX9_straight_5 ev1 ?_
  refine k_i (wc := [(b 1, oX0 bt t_lines t_span t_rule t_odds t_wide t_high t_creeks t_houses t_widows t_acts)]) (wr := [(h0, oX9 b), (bt 10, .inl (cI, 12, .inl t_f10)), (bt 18, .inl (cI, 30, .inl t_f18)), (b 4, oX6 bn n_field n_houses), (bn 0, .inl (cI, 287, .inl n_f0)), (bn 1, .inl (cI, 7, .inl n_f1)), (b 7, oX3 z0 k_cells k_across k_down)]) hP hD hS hA [1] [0, 2, 3, 4, 5, 6, 7] rfl rfl rfl (by decide) (va_runVN (As := [.long v1]) (rest := []) ⟨hx, hb, hml, hown, hts⟩ (f_X0_hasWidow l G cI cJ cZ cB cQ _ (b 1) v1 p0.toInt bt t_lines t_span t_rule t_odds t_wide t_high t_creeks t_houses t_widows t_acts tv1 hl_t_span hh_t_span hl_t_rule hh_t_rule hl_t_odds hh_t_odds hl_t_wide hh_t_wide hl_t_high hh_t_high hl_t_creeks hh_t_creeks hl_t_houses hh_t_houses hl_t_widows hh_t_widows hl_t_acts hh_t_acts) ⟨va_cnB (host := "WidowRoads") 1 hts (gW w_671) rfl rfl rfl (nz_nw hZ nw_668 rfl) (hts _ w_4) hd_X0_hasWidow ⟨Nat.le_of_ble_eq_true rfl, Nat.le_of_ble_eq_true rfl⟩, (hts _ w_670), (hts _ wp_35)⟩ (mV hK hZ hP hD [1] rfl rfl [.long v1] 1 0 rfl rfl) rfl rfl hl.1 rfl (lv_room (Nat.le_of_ble_eq_true rfl)) dX9_straight_6 ⟨Nat.le_of_ble_eq_true rfl, Nat.le_of_ble_eq_true rfl⟩) (fun r2 u3 H locs hw4 hP hD hS => ?_)
  try dsimp only at hw4
  have hP : va_P G vwCl [(h0, oX9 b), (bt 10, .inl (cI, 12, .inl t_f10)), (bt 18, .inl (cI, 30, .inl t_f18)), (b 4, oX6 bn n_field n_houses), (bn 0, .inl (cI, 287, .inl n_f0)), (bn 1, .inl (cI, 7, .inl n_f1)), (b 7, oX3 z0 k_cells k_across k_down), (b 1, oX0 bt t_lines t_span t_rule t_odds t_wide t_high t_creeks t_houses t_widows t_acts)] H := hP
  have hD : va_D A [(h0, oX9 b), (bt 10, .inl (cI, 12, .inl t_f10)), (bt 18, .inl (cI, 30, .inl t_f18)), (b 4, oX6 bn n_field n_houses), (bn 0, .inl (cI, 287, .inl n_f0)), (bn 1, .inl (cI, 7, .inl n_f1)), (b 7, oX3 z0 k_cells k_across k_down), (b 1, oX0 bt t_lines t_span t_rule t_odds t_wide t_high t_creeks t_houses t_widows t_acts)] := hD
  rcases hw4 with ⟨rfl, a6, a7⟩ | ⟨rfl, a8⟩
  · skip
    refine lv_if_ne (tgt := 15) hx hb dX9_straight_9 (by decide) (fun c9 => ?_) (fun c9 => absurd c9 (by decide))
    refine lv_aload_n hx hb dX9_straight_15 rfl (lv_at hl 0 rfl) ?_
    refine va_get (D := G) (ci := 9) (v := .ref (b 4)) (C := RX9) (T := TX9) (N := 11) hx hb hts iG_X9 hown hK hP 0 rfl rfl 4 (by decide) (hts _ w_355) (fun _ h9 => h9) rfl dX9_straight_16 ?_
    refine lv_iload_n hx hb dX9_straight_19 rfl (lv_at hl 1 rfl) ?_
    refine k_i (wc := [(b 4, oX6 bn n_field n_houses), (bn 1, .inl (cI, 7, .inl n_f1))]) (wr := [(h0, oX9 b), (bt 10, .inl (cI, 12, .inl t_f10)), (bt 18, .inl (cI, 30, .inl t_f18)), (bn 0, .inl (cI, 287, .inl n_f0)), (b 7, oX3 z0 k_cells k_across k_down), (b 1, oX0 bt t_lines t_span t_rule t_odds t_wide t_high t_creeks t_houses t_widows t_acts)]) hP hD hS hA [3, 5] [0, 1, 2, 4, 6, 7] rfl rfl rfl (by decide) (va_runVN (As := [.int p0]) (rest := []) ⟨hx, hb, hml, hown, hts⟩ (f_X6_walks l G cI cJ cZ cB cQ _ (b 4) p0 bn n_field n_houses n_f1 (by omega) (by omega) hl_n_houses hh_n_houses ha_n_f1) ⟨va_cnB (host := "WidowRoads") 1 hts (gW w_702) rfl rfl rfl (nz_nw hZ nw_699 rfl) (hts _ w_6) hd_X6_walks ⟨Nat.le_of_ble_eq_true rfl, Nat.le_of_ble_eq_true rfl⟩, (hts _ w_701), (hts _ wp_37)⟩ (mV hK hZ hP hD [3, 5] rfl rfl [.int p0] 3 6 rfl rfl) rfl rfl hl.1 rfl (lv_room (Nat.le_of_ble_eq_true rfl)) dX9_straight_20 ⟨Nat.le_of_ble_eq_true rfl, Nat.le_of_ble_eq_true rfl⟩) (fun r10 u11 H locs hw12 hP hD hS => ?_)
    try dsimp only at hw12
    have hP : va_P G vwCl [(h0, oX9 b), (bt 10, .inl (cI, 12, .inl t_f10)), (bt 18, .inl (cI, 30, .inl t_f18)), (bn 0, .inl (cI, 287, .inl n_f0)), (b 7, oX3 z0 k_cells k_across k_down), (b 1, oX0 bt t_lines t_span t_rule t_odds t_wide t_high t_creeks t_houses t_widows t_acts), (b 4, oX6 bn n_field n_houses), (bn 1, .inl (cI, 7, .inl n_f1))] H := hP
    have hD : va_D A [(h0, oX9 b), (bt 10, .inl (cI, 12, .inl t_f10)), (bt 18, .inl (cI, 30, .inl t_f18)), (bn 0, .inl (cI, 287, .inl n_f0)), (b 7, oX3 z0 k_cells k_across k_down), (b 1, oX0 bt t_lines t_span t_rule t_odds t_wide t_high t_creeks t_houses t_widows t_acts), (b 4, oX6 bn n_field n_houses), (bn 1, .inl (cI, 7, .inl n_f1))] := hD
    rcases hw12 with ⟨rfl, a14⟩ | ⟨rfl, a15⟩
    · skip
      refine lv_if_ne (tgt := 28) hx hb dX9_straight_23 (by decide) (fun c16 => ?_) (fun c16 => absurd c16 (by decide))
      refine lv_aload_n hx hb dX9_straight_28 rfl (lv_at hl 0 rfl) ?_
      refine lv_aload_n hx hb dX9_straight_29 rfl (lv_at hl 0 rfl) ?_
      refine va_get (D := G) (ci := 9) (v := .ref (b 4)) (C := RX9) (T := TX9) (N := 11) hx hb hts iG_X9 hown hK hP 0 rfl rfl 4 (by decide) (hts _ w_355) (fun _ h9 => h9) rfl dX9_straight_30 ?_
      refine lv_iload_n hx hb dX9_straight_33 rfl (lv_at hl 1 rfl) ?_
      refine lv_iconst (v := 0) hx hb dX9_straight_34 (by decide) ?_
      refine k_i (wc := [(b 4, oX6 bn n_field n_houses), (bn 0, .inl (cI, 287, .inl n_f0)), (bn 1, .inl (cI, 7, .inl n_f1))]) (wr := [(h0, oX9 b), (bt 10, .inl (cI, 12, .inl t_f10)), (bt 18, .inl (cI, 30, .inl t_f18)), (b 7, oX3 z0 k_cells k_across k_down), (b 1, oX0 bt t_lines t_span t_rule t_odds t_wide t_high t_creeks t_houses t_widows t_acts)]) hP hD hS hA [6, 3, 7] [0, 1, 2, 4, 5] rfl rfl rfl (by decide) (va_runVN (As := [.int p0, .int 0]) (rest := [.ref h0]) ⟨hx, hb, hml, hown, hts⟩ (f_X6_spotAt l G cI cJ cZ cB cQ _ (b 4) p0 0 bn n_field n_houses n_f0 n_f1 (by omega) (by omega) (by rw [ki_0]; decide) hl_n_houses hh_n_houses ha_n_f1) ⟨va_cnB (host := "WidowRoads") 2 hts (gW w_690) rfl rfl rfl (nz_nw hZ nw_687 rfl) (hts _ w_6) hd_X6_spotAt ⟨Nat.le_of_ble_eq_true rfl, Nat.le_of_ble_eq_true rfl⟩, (hts _ w_689), (hts _ wp_36)⟩ (mV hK hZ hP hD [6, 3, 7] rfl rfl [.int p0, .int 0] 6 6 rfl rfl) rfl rfl hl.1 rfl (lv_room (Nat.le_of_ble_eq_true rfl)) dX9_straight_35 ⟨Nat.le_of_ble_eq_true rfl, Nat.le_of_ble_eq_true rfl⟩) (fun r17 u18 H locs hw19 hP hD hS => ?_)
      try dsimp only at hw19
      have hP : va_P G vwCl [(h0, oX9 b), (bt 10, .inl (cI, 12, .inl t_f10)), (bt 18, .inl (cI, 30, .inl t_f18)), (b 7, oX3 z0 k_cells k_across k_down), (b 1, oX0 bt t_lines t_span t_rule t_odds t_wide t_high t_creeks t_houses t_widows t_acts), (b 4, oX6 bn n_field n_houses), (bn 0, .inl (cI, 287, .inl n_f0)), (bn 1, .inl (cI, 7, .inl n_f1))] H := hP
      have hD : va_D A [(h0, oX9 b), (bt 10, .inl (cI, 12, .inl t_f10)), (bt 18, .inl (cI, 30, .inl t_f18)), (b 7, oX3 z0 k_cells k_across k_down), (b 1, oX0 bt t_lines t_span t_rule t_odds t_wide t_high t_creeks t_houses t_widows t_acts), (b 4, oX6 bn n_field n_houses), (bn 0, .inl (cI, 287, .inl n_f0)), (bn 1, .inl (cI, 7, .inl n_f1))] := hD
      refine lv_aload_n hx hb dX9_straight_38 rfl (lv_at hl 0 rfl) ?_
      refine va_get (D := G) (ci := 9) (v := .ref (b 4)) (C := RX9) (T := TX9) (N := 11) hx hb hts iG_X9 hown hK hP 0 rfl rfl 4 (by decide) (hts _ w_355) (fun _ h9 => h9) rfl dX9_straight_39 ?_
      refine lv_iload_n hx hb dX9_straight_42 rfl (lv_at hl 1 rfl) ?_
      refine lv_aload_n hx hb dX9_straight_43 rfl (lv_at hl 0 rfl) ?_
      refine va_get (D := G) (ci := 9) (v := .ref (b 4)) (C := RX9) (T := TX9) (N := 11) hx hb hts iG_X9 hown hK hP 0 rfl rfl 4 (by decide) (hts _ w_355) (fun _ h9 => h9) rfl dX9_straight_44 ?_
      refine va_getN (D := G) (ci := 6) (v := .ref (bn 1)) (C := RX6) (T := TX6) (N := 12) hx hb hts iG_X6 hown hK hP 5 rfl rfl 1 (by decide) (nz_use hZ nw_235 rfl) (fun _ h9 => h9) rfl dX9_straight_47 ?_
      refine lv_iload_n hx hb dX9_straight_50 rfl (lv_at hl 1 rfl) ?_
      refine va_iald hx hb hK hP 7 0 rfl rfl (ix_in rfl (by omega) (by omega)) dX9_straight_51 ?_
      refine lv_topi (fun v20 ev20 => ?_)
      obtain ⟨ia21, ib22⟩ := ai_get ha_n_f1 rfl (by omega) (by omega) ev20
      have lkv20 : v20.toInt = (n_f1 p0.toNatClampNeg).toInt := by rw [ev20]
      refine k_i (wc := [(b 4, oX6 bn n_field n_houses), (bn 0, .inl (cI, 287, .inl n_f0)), (bn 1, .inl (cI, 7, .inl n_f1))]) (wr := [(h0, oX9 b), (bt 10, .inl (cI, 12, .inl t_f10)), (bt 18, .inl (cI, 30, .inl t_f18)), (b 7, oX3 z0 k_cells k_across k_down), (b 1, oX0 bt t_lines t_span t_rule t_odds t_wide t_high t_creeks t_houses t_widows t_acts)]) hP hD hS hA [5, 6, 7] [0, 1, 2, 3, 4] rfl rfl rfl (by decide) (va_runVN (As := [.int p0, .int v20]) (rest := [.int r17, .ref h0]) ⟨hx, hb, hml, hown, hts⟩ (f_X6_spotAt l G cI cJ cZ cB cQ _ (b 4) p0 v20 bn n_field n_houses n_f0 n_f1 (by omega) (by omega) (by omega) hl_n_houses hh_n_houses ha_n_f1) ⟨va_cnB (host := "WidowRoads") 2 hts (gW w_690) rfl rfl rfl (nz_nw hZ nw_687 rfl) (hts _ w_6) hd_X6_spotAt ⟨Nat.le_of_ble_eq_true rfl, Nat.le_of_ble_eq_true rfl⟩, (hts _ w_689), (hts _ wp_36)⟩ (mV hK hZ hP hD [5, 6, 7] rfl rfl [.int p0, .int v20] 5 6 rfl rfl) rfl rfl hl.1 rfl (lv_room (Nat.le_of_ble_eq_true rfl)) dX9_straight_52 ⟨Nat.le_of_ble_eq_true rfl, Nat.le_of_ble_eq_true rfl⟩) (fun r23 u24 H locs hw25 hP hD hS => ?_)
      try dsimp only at hw25
      have hP : va_P G vwCl [(h0, oX9 b), (bt 10, .inl (cI, 12, .inl t_f10)), (bt 18, .inl (cI, 30, .inl t_f18)), (b 7, oX3 z0 k_cells k_across k_down), (b 1, oX0 bt t_lines t_span t_rule t_odds t_wide t_high t_creeks t_houses t_widows t_acts), (b 4, oX6 bn n_field n_houses), (bn 0, .inl (cI, 287, .inl n_f0)), (bn 1, .inl (cI, 7, .inl n_f1))] H := hP
      have hD : va_D A [(h0, oX9 b), (bt 10, .inl (cI, 12, .inl t_f10)), (bt 18, .inl (cI, 30, .inl t_f18)), (b 7, oX3 z0 k_cells k_across k_down), (b 1, oX0 bt t_lines t_span t_rule t_odds t_wide t_high t_creeks t_houses t_widows t_acts), (b 4, oX6 bn n_field n_houses), (bn 0, .inl (cI, 287, .inl n_f0)), (bn 1, .inl (cI, 7, .inl n_f1))] := hD
      refine k_i (wc := [(h0, oX9 b), (b 1, oX0 bt t_lines t_span t_rule t_odds t_wide t_high t_creeks t_houses t_widows t_acts), (bt 10, .inl (cI, 12, .inl t_f10)), (bt 18, .inl (cI, 30, .inl t_f18)), (b 7, oX3 z0 k_cells k_across k_down)]) (wr := [(b 4, oX6 bn n_field n_houses), (bn 0, .inl (cI, 287, .inl n_f0)), (bn 1, .inl (cI, 7, .inl n_f1))]) hP hD hS hA [0, 4, 1, 2, 3] [5, 6, 7] rfl rfl rfl (by decide) (va_runV (As := [.int r17, .int r23]) (rest := []) ⟨hx, hb, hml, hown, hts⟩ (f_X9_straightWay l G cI cJ cZ cB cQ _ h0 r17 r23 b bt t_lines t_span t_rule t_odds t_wide t_high t_creeks t_houses t_widows t_acts t_f10 t_f18 k_cells k_across k_down hl_t_span hh_t_span hl_t_rule hh_t_rule hl_t_odds hh_t_odds hl_t_wide hh_t_wide hl_t_high hh_t_high hl_t_creeks hh_t_creeks hl_t_houses hh_t_houses hl_t_widows hh_t_widows hl_t_acts hh_t_acts) (cwV 2 hts (gV w_736 w_738 wp_40 w_1 w_739) rfl rfl rfl ⟨rfl, hd_X9_straightWay⟩ ⟨Nat.le_of_ble_eq_true rfl, Nat.le_of_ble_eq_true rfl⟩) (mV hK hZ hP hD [0, 4, 1, 2, 3] rfl rfl [.int r17, .int r23] 0 9 rfl rfl) rfl rfl hl.1 rfl (lv_room (Nat.le_of_ble_eq_true rfl)) dX9_straight_55 ⟨Nat.le_of_ble_eq_true rfl, Nat.le_of_ble_eq_true rfl⟩) (fun r26 u27 H locs hw28 hP hD hS => ?_)
      obtain ⟨k_cellso29, k_acrosso30, k_downo31⟩ := u27
      try dsimp only at hw28
      have hP : va_P G vwCl [(b 4, oX6 bn n_field n_houses), (bn 0, .inl (cI, 287, .inl n_f0)), (bn 1, .inl (cI, 7, .inl n_f1)), (h0, oX9 b), (b 1, oX0 bt t_lines t_span t_rule t_odds t_wide t_high t_creeks t_houses t_widows t_acts), (bt 10, .inl (cI, 12, .inl t_f10)), (bt 18, .inl (cI, 30, .inl t_f18)), (b 7, oX3 z0 k_cellso29 k_acrosso30 k_downo31)] H := hP
      have hD : va_D A [(b 4, oX6 bn n_field n_houses), (bn 0, .inl (cI, 287, .inl n_f0)), (bn 1, .inl (cI, 7, .inl n_f1)), (h0, oX9 b), (b 1, oX0 bt t_lines t_span t_rule t_odds t_wide t_high t_creeks t_houses t_widows t_acts), (bt 10, .inl (cI, 12, .inl t_f10)), (bt 18, .inl (cI, 30, .inl t_f18)), (b 7, oX3 z0 k_cellso29 k_acrosso30 k_downo31)] := hD
      refine lv_istore_n (lv' := [(2, .int r26), (0, .ref h0), (1, .int p0)]) hx hb dX9_straight_58 rfl hl (by decide) rfl (fun ls hl => ?_)
      refine lv_iload_n hx hb dX9_straight_59 rfl (lv_at hl 0 rfl) ?_
      refine lv_iconst (v := (-1)) hx hb dX9_straight_60 (by decide) ?_
      refine lv_icmp_ne (tgt := 69) hx hb dX9_straight_61 (by decide) (fun c32 => ?_) (fun c32 => ?_)
      · have c32 := i_ne rfl ki_m1 c32
        refine lv_iload_n hx hb dX9_straight_69 rfl (lv_at hl 0 rfl) ?_
        exact hret _ _ _ _ r26 (k_cellso29, k_acrosso30, k_downo31) (hP.sub (ws' := [(h0, oX9 b), (b 1, oX0 bt t_lines t_span t_rule t_odds t_wide t_high t_creeks t_houses t_widows t_acts), (bt 10, .inl (cI, 12, .inl t_f10)), (bt 18, .inl (cI, 30, .inl t_f18)), (b 4, oX6 bn n_field n_houses), (bn 0, .inl (cI, 287, .inl n_f0)), (bn 1, .inl (cI, 7, .inl n_f1)), (b 7, oX3 z0 k_cellso29 k_acrosso30 k_downo31)]) [3, 4, 5, 6, 0, 1, 2, 7] rfl) (hD.sub (ws' := [(h0, oX9 b), (b 1, oX0 bt t_lines t_span t_rule t_odds t_wide t_high t_creeks t_houses t_widows t_acts), (bt 10, .inl (cI, 12, .inl t_f10)), (bt 18, .inl (cI, 30, .inl t_f18)), (b 4, oX6 bn n_field n_houses), (bn 0, .inl (cI, 287, .inl n_f0)), (bn 1, .inl (cI, 7, .inl n_f1)), (b 7, oX3 z0 k_cellso29 k_acrosso30 k_downo31)]) [3, 4, 5, 6, 0, 1, 2, 7] rfl rfl) hS dX9_straight_70 trivial
      · have c32 := i_eq rfl ki_m1 c32
        refine lv_bipush (v := (-3)) hx hb dX9_straight_64 (by decide) ?_
        refine lv_goto (tgt := 70) hx hb dX9_straight_66 (by decide) ?_
        exact hret _ _ _ _ (-3) (k_cellso29, k_acrosso30, k_downo31) (hP.sub (ws' := [(h0, oX9 b), (b 1, oX0 bt t_lines t_span t_rule t_odds t_wide t_high t_creeks t_houses t_widows t_acts), (bt 10, .inl (cI, 12, .inl t_f10)), (bt 18, .inl (cI, 30, .inl t_f18)), (b 4, oX6 bn n_field n_houses), (bn 0, .inl (cI, 287, .inl n_f0)), (bn 1, .inl (cI, 7, .inl n_f1)), (b 7, oX3 z0 k_cellso29 k_acrosso30 k_downo31)]) [3, 4, 5, 6, 0, 1, 2, 7] rfl) (hD.sub (ws' := [(h0, oX9 b), (b 1, oX0 bt t_lines t_span t_rule t_odds t_wide t_high t_creeks t_houses t_widows t_acts), (bt 10, .inl (cI, 12, .inl t_f10)), (bt 18, .inl (cI, 30, .inl t_f18)), (b 4, oX6 bn n_field n_houses), (bn 0, .inl (cI, 287, .inl n_f0)), (bn 1, .inl (cI, 7, .inl n_f1)), (b 7, oX3 z0 k_cellso29 k_acrosso30 k_downo31)]) [3, 4, 5, 6, 0, 1, 2, 7] rfl rfl) hS dX9_straight_70 trivial
    · skip
      refine lv_if_ne (tgt := 28) hx hb dX9_straight_23 (by decide) (fun c33 => absurd (by decide) c33) (fun c33 => ?_)
      refine lv_iconst (v := (-1)) hx hb dX9_straight_26 (by decide) ?_
      exact hret _ _ _ _ (-1) (k_cells, k_across, k_down) (hP.sub (ws' := [(h0, oX9 b), (b 1, oX0 bt t_lines t_span t_rule t_odds t_wide t_high t_creeks t_houses t_widows t_acts), (bt 10, .inl (cI, 12, .inl t_f10)), (bt 18, .inl (cI, 30, .inl t_f18)), (b 4, oX6 bn n_field n_houses), (bn 0, .inl (cI, 287, .inl n_f0)), (bn 1, .inl (cI, 7, .inl n_f1)), (b 7, oX3 z0 k_cells k_across k_down)]) [0, 5, 1, 2, 6, 3, 7, 4] rfl) (hD.sub (ws' := [(h0, oX9 b), (b 1, oX0 bt t_lines t_span t_rule t_odds t_wide t_high t_creeks t_houses t_widows t_acts), (bt 10, .inl (cI, 12, .inl t_f10)), (bt 18, .inl (cI, 30, .inl t_f18)), (b 4, oX6 bn n_field n_houses), (bn 0, .inl (cI, 287, .inl n_f0)), (bn 1, .inl (cI, 7, .inl n_f1)), (b 7, oX3 z0 k_cells k_across k_down)]) [0, 5, 1, 2, 6, 3, 7, 4] rfl rfl) hS dX9_straight_27 trivial
  · skip
    refine lv_if_ne (tgt := 15) hx hb dX9_straight_9 (by decide) (fun c34 => absurd (by decide) c34) (fun c34 => ?_)
    refine lv_bipush (v := (-2)) hx hb dX9_straight_12 (by decide) ?_
    exact hret _ _ _ _ (-2) (k_cells, k_across, k_down) (hP.sub (ws' := [(h0, oX9 b), (b 1, oX0 bt t_lines t_span t_rule t_odds t_wide t_high t_creeks t_houses t_widows t_acts), (bt 10, .inl (cI, 12, .inl t_f10)), (bt 18, .inl (cI, 30, .inl t_f18)), (b 4, oX6 bn n_field n_houses), (bn 0, .inl (cI, 287, .inl n_f0)), (bn 1, .inl (cI, 7, .inl n_f1)), (b 7, oX3 z0 k_cells k_across k_down)]) [0, 7, 1, 2, 3, 4, 5, 6] rfl) (hD.sub (ws' := [(h0, oX9 b), (b 1, oX0 bt t_lines t_span t_rule t_odds t_wide t_high t_creeks t_houses t_widows t_acts), (bt 10, .inl (cI, 12, .inl t_f10)), (bt 18, .inl (cI, 30, .inl t_f18)), (b 4, oX6 bn n_field n_houses), (bn 0, .inl (cI, 287, .inl n_f0)), (bn 1, .inl (cI, 7, .inl n_f1)), (b 7, oX3 z0 k_cells k_across k_down)]) [0, 7, 1, 2, 3, 4, 5, 6] rfl rfl) hS dX9_straight_14 trivial
set_option maxHeartbeats 4000000 in
set_option maxRecDepth 100000 in
theorem f_X9_road (l : Launch) (G : va_G) (cI cJ cZ cB cQ : ClassId) (sz : Nat) (h0 : Nat) (p0 : Int32) (p1 : Int32) (b : Nat → Nat) (bt : Nat → Nat) (t_lines : Int32) (t_span : Int32) (t_rule : Int32) (t_odds : Int32) (t_wide : Int32) (t_high : Int32) (t_creeks : Int32) (t_houses : Int32) (t_widows : Int32) (t_acts : Int32) (bn : Nat → Nat) (n_field : Int64) (n_houses : Int32) (n_f7 : Nat → Int64) (hl_t_span : 0 ≤ t_span.toInt) (hh_t_span : t_span.toInt ≤ 12) (hl_t_rule : 0 ≤ t_rule.toInt) (hh_t_rule : t_rule.toInt ≤ 3) (hl_t_odds : 0 ≤ t_odds.toInt) (hh_t_odds : t_odds.toInt ≤ 10) (hl_t_wide : 0 ≤ t_wide.toInt) (hh_t_wide : t_wide.toInt ≤ 8) (hl_t_high : 0 ≤ t_high.toInt) (hh_t_high : t_high.toInt ≤ 8) (hl_t_creeks : 0 ≤ t_creeks.toInt) (hh_t_creeks : t_creeks.toInt ≤ 12) (hl_t_houses : 0 ≤ t_houses.toInt) (hh_t_houses : t_houses.toInt ≤ 6) (hl_t_widows : 0 ≤ t_widows.toInt) (hh_t_widows : t_widows.toInt ≤ 7) (hl_t_acts : 0 ≤ t_acts.toInt) (hh_t_acts : t_acts.toInt ≤ 30) (hl_n_houses : 0 ≤ n_houses.toInt) (hh_n_houses : n_houses.toInt ≤ 6) : CI l yX9_road (wl_ yX9_road cX9_road 4 (some .int)) ({ frames := 1, cells := 0, slots := 0, locals := 22 } : Room) G (TY cI cJ cZ cB cQ) [.ref h0, .int p0, .int p1] [(h0, oX9 b), (b 1, oX0 bt t_lines t_span t_rule t_odds t_wide t_high t_creeks t_houses t_widows t_acts), (b 4, oX6 bn n_field n_houses), (bn 7, .inl (cJ, 13, .inr (.inl n_f7)))] sz (fun (r : Int32) (u : Unit) => True) (fun _ : Unit => [(h0, oX9 b), (b 1, oX0 bt t_lines t_span t_rule t_odds t_wide t_high t_creeks t_houses t_widows t_acts), (b 4, oX6 bn n_field n_houses), (bn 7, .inl (cJ, 13, .inr (.inl n_f7)))]) 0 0 := by
  refine CI.go (cc := cX9_road) (maxL := 4) (ret := (some .int)) (by decide) rfl (Nat.le_of_ble_eq_true rfl) ?_
  intro p e s m below meth c A ls Q hBd hret
  obtain ⟨hx, hb, hr, hml, hts, hown, hlk, hnm, hP, hK, hD, hA, hZ, hl⟩ := hBd
  have hown : s.vm.findClass RX9 = some m.cls := hown
  have hl : lv_has ls 4 [(0, .ref h0), (1, .int p0), (2, .int p1)] := hl
  have hS : va_S A s.heap s.heap [] := va_S.rf
  refine lv_aload_n hx hb dX9_road_0 rfl (lv_at hl 0 rfl) ?_
  refine va_get (D := G) (ci := 9) (v := .ref (b 1)) (C := RX9) (T := TX9) (N := 11) hx hb hts iG_X9 hown hK hP 0 rfl rfl 1 (by decide) (hts _ w_352) (fun _ h9 => h9) rfl dX9_road_1 ?_
  refine lv_iload_n hx hb dX9_road_4 rfl (lv_at hl 1 rfl) ?_
  obtain ⟨v1, ev1⟩ : ∃ y : Int64, p0.toInt64 = y := ⟨_, rfl⟩
  have tv1 : v1.toInt = p0.toInt := ti_wide rfl ev1
  refine lv_i2l (v := v1) hx hb dX9_road_5 ev1 ?_
  refine k_i (wc := [(b 1, oX0 bt t_lines t_span t_rule t_odds t_wide t_high t_creeks t_houses t_widows t_acts)]) (wr := [(h0, oX9 b), (b 4, oX6 bn n_field n_houses), (bn 7, .inl (cJ, 13, .inr (.inl n_f7)))]) hP hD hS hA [1] [0, 2, 3] rfl rfl rfl (by decide) (va_runVN (As := [.long v1]) (rest := []) ⟨hx, hb, hml, hown, hts⟩ (f_X0_spotOf l G cI cJ cZ cB cQ _ (b 1) v1 bt t_lines t_span t_rule t_odds t_wide t_high t_creeks t_houses t_widows t_acts hl_t_span hh_t_span hl_t_rule hh_t_rule hl_t_odds hh_t_odds hl_t_wide hh_t_wide hl_t_high hh_t_high hl_t_creeks hh_t_creeks hl_t_houses hh_t_houses hl_t_widows hh_t_widows hl_t_acts hh_t_acts) ⟨va_cnB (host := "WidowRoads") 1 hts (gW w_656) rfl rfl rfl (nz_nw hZ nw_653 rfl) (hts _ w_4) hd_X0_spotOf ⟨Nat.le_of_ble_eq_true rfl, Nat.le_of_ble_eq_true rfl⟩, (hts _ w_655), (hts _ wp_34)⟩ (mV hK hZ hP hD [1] rfl rfl [.long v1] 1 0 rfl rfl) rfl rfl hl.1 rfl (lv_room (Nat.le_of_ble_eq_true rfl)) dX9_road_6 ⟨Nat.le_of_ble_eq_true rfl, Nat.le_of_ble_eq_true rfl⟩) (fun r2 u3 H locs hw4 hP hD hS => ?_)
  try dsimp only at hw4
  have hP : va_P G vwCl [(h0, oX9 b), (b 4, oX6 bn n_field n_houses), (bn 7, .inl (cJ, 13, .inr (.inl n_f7))), (b 1, oX0 bt t_lines t_span t_rule t_odds t_wide t_high t_creeks t_houses t_widows t_acts)] H := hP
  have hD : va_D A [(h0, oX9 b), (b 4, oX6 bn n_field n_houses), (bn 7, .inl (cJ, 13, .inr (.inl n_f7))), (b 1, oX0 bt t_lines t_span t_rule t_odds t_wide t_high t_creeks t_houses t_widows t_acts)] := hD
  refine lv_istore_n (lv' := [(3, .int r2), (0, .ref h0), (1, .int p0), (2, .int p1)]) hx hb dX9_road_9 rfl hl (by decide) rfl (fun ls hl => ?_)
  refine lv_iload_n hx hb dX9_road_10 rfl (lv_at hl 0 rfl) ?_
  refine lv_iconst (v := (-1)) hx hb dX9_road_11 (by decide) ?_
  refine lv_icmp_eq (tgt := 26) hx hb dX9_road_12 (by decide) (fun c5 => ?_) (fun c5 => ?_)
  · have c5 := i_eq rfl ki_m1 c5
    refine lv_bipush (v := (-2)) hx hb dX9_road_26 (by decide) ?_
    exact hret _ _ _ _ (-2) () (hP.sub (ws' := [(h0, oX9 b), (b 1, oX0 bt t_lines t_span t_rule t_odds t_wide t_high t_creeks t_houses t_widows t_acts), (b 4, oX6 bn n_field n_houses), (bn 7, .inl (cJ, 13, .inr (.inl n_f7)))]) [0, 3, 1, 2] rfl) (hD.sub (ws' := [(h0, oX9 b), (b 1, oX0 bt t_lines t_span t_rule t_odds t_wide t_high t_creeks t_houses t_widows t_acts), (b 4, oX6 bn n_field n_houses), (bn 7, .inl (cJ, 13, .inr (.inl n_f7)))]) [0, 3, 1, 2] rfl rfl) hS dX9_road_28 trivial
  · have c5 := i_ne rfl ki_m1 c5
    refine lv_aload_n hx hb dX9_road_15 rfl (lv_at hl 1 rfl) ?_
    refine va_get (D := G) (ci := 9) (v := .ref (b 1)) (C := RX9) (T := TX9) (N := 11) hx hb hts iG_X9 hown hK hP 0 rfl rfl 1 (by decide) (hts _ w_352) (fun _ h9 => h9) rfl dX9_road_16 ?_
    refine lv_iload_n hx hb dX9_road_19 rfl (lv_at hl 3 rfl) ?_
    refine k_i (wc := [(b 1, oX0 bt t_lines t_span t_rule t_odds t_wide t_high t_creeks t_houses t_widows t_acts)]) (wr := [(h0, oX9 b), (b 4, oX6 bn n_field n_houses), (bn 7, .inl (cJ, 13, .inr (.inl n_f7)))]) hP hD hS hA [3] [0, 1, 2] rfl rfl rfl (by decide) (va_runVN (As := [.int p1]) (rest := []) ⟨hx, hb, hml, hown, hts⟩ (f_X0_hasYear l G cI cJ cZ cB cQ _ (b 1) p1 p1.toInt bt t_lines t_span t_rule t_odds t_wide t_high t_creeks t_houses t_widows t_acts rfl hl_t_span hh_t_span hl_t_rule hh_t_rule hl_t_odds hh_t_odds hl_t_wide hh_t_wide hl_t_high hh_t_high hl_t_creeks hh_t_creeks hl_t_houses hh_t_houses hl_t_widows hh_t_widows hl_t_acts hh_t_acts) ⟨va_cnB (host := "WidowRoads") 1 hts (gW w_727) rfl rfl rfl (nz_nw hZ nw_724 rfl) (hts _ w_4) hd_X0_hasYear ⟨Nat.le_of_ble_eq_true rfl, Nat.le_of_ble_eq_true rfl⟩, (hts _ w_726), (hts _ wp_39)⟩ (mV hK hZ hP hD [3] rfl rfl [.int p1] 3 0 rfl rfl) rfl rfl hl.1 rfl (lv_room (Nat.le_of_ble_eq_true rfl)) dX9_road_20 ⟨Nat.le_of_ble_eq_true rfl, Nat.le_of_ble_eq_true rfl⟩) (fun r6 u7 H locs hw8 hP hD hS => ?_)
    try dsimp only at hw8
    have hP : va_P G vwCl [(h0, oX9 b), (b 4, oX6 bn n_field n_houses), (bn 7, .inl (cJ, 13, .inr (.inl n_f7))), (b 1, oX0 bt t_lines t_span t_rule t_odds t_wide t_high t_creeks t_houses t_widows t_acts)] H := hP
    have hD : va_D A [(h0, oX9 b), (b 4, oX6 bn n_field n_houses), (bn 7, .inl (cJ, 13, .inr (.inl n_f7))), (b 1, oX0 bt t_lines t_span t_rule t_odds t_wide t_high t_creeks t_houses t_widows t_acts)] := hD
    rcases hw8 with ⟨rfl, a10, a11⟩ | rfl
    · skip
      refine lv_if_ne (tgt := 29) hx hb dX9_road_23 (by decide) (fun c12 => ?_) (fun c12 => absurd c12 (by decide))
      refine lv_aload_n hx hb dX9_road_29 rfl (lv_at hl 1 rfl) ?_
      refine va_get (D := G) (ci := 9) (v := .ref (b 4)) (C := RX9) (T := TX9) (N := 11) hx hb hts iG_X9 hown hK hP 0 rfl rfl 4 (by decide) (hts _ w_355) (fun _ h9 => h9) rfl dX9_road_30 ?_
      refine va_getN (D := G) (ci := 6) (v := .ref (bn 7)) (C := RX6) (T := TX6) (N := 12) hx hb hts iG_X6 hown hK hP 1 rfl rfl 7 (by decide) (nz_use hZ nw_249 rfl) (fun _ h9 => h9) rfl dX9_road_33 ?_
      refine lv_iload_n hx hb dX9_road_36 rfl (lv_at hl 3 rfl) ?_
      refine va_lald hx hb hK hP 2 1 rfl rfl (ix_in rfl (by omega) (by omega)) dX9_road_37 ?_
      refine lv_topl (fun v13 ev13 => ?_)
      refine lv_iload_n hx hb dX9_road_38 rfl (lv_at hl 0 rfl) ?_
      refine k_i (wc := []) (wr := [(h0, oX9 b), (b 4, oX6 bn n_field n_houses), (bn 7, .inl (cJ, 13, .inr (.inl n_f7))), (b 1, oX0 bt t_lines t_span t_rule t_odds t_wide t_high t_creeks t_houses t_widows t_acts)]) hP hD hS hA [] [0, 1, 2, 3] rfl rfl rfl (by decide) (va_runS (As := [.long v13, .int r2]) (rest := []) ⟨hx, hb, hml, hown, hts⟩ (f_X9_has l G cI cJ cZ cB cQ _ v13 r2) (va_cwS 2 hts (gS w_660 w_526 w_1 w_527) rfl rfl rfl hd_X9_has ⟨Nat.le_of_ble_eq_true rfl, Nat.le_of_ble_eq_true rfl⟩) (mS hK hZ hP hD [] rfl rfl [.long v13, .int r2]) rfl rfl hl.1 rfl (lv_room (Nat.le_of_ble_eq_true rfl)) dX9_road_39 ⟨Nat.le_of_ble_eq_true rfl, Nat.le_of_ble_eq_true rfl⟩) (fun r14 u15 H locs hw16 hP hD hS => ?_)
      try dsimp only at hw16
      have hP : va_P G vwCl [(h0, oX9 b), (b 4, oX6 bn n_field n_houses), (bn 7, .inl (cJ, 13, .inr (.inl n_f7))), (b 1, oX0 bt t_lines t_span t_rule t_odds t_wide t_high t_creeks t_houses t_widows t_acts)] H := hP
      have hD : va_D A [(h0, oX9 b), (b 4, oX6 bn n_field n_houses), (bn 7, .inl (cJ, 13, .inr (.inl n_f7))), (b 1, oX0 bt t_lines t_span t_rule t_odds t_wide t_high t_creeks t_houses t_widows t_acts)] := hD
      obtain ⟨w17, w18⟩ : 0 ≤ r14.toInt ∧ r14.toInt ≤ 1 := hw16
      refine k_i (wc := []) (wr := [(h0, oX9 b), (b 4, oX6 bn n_field n_houses), (bn 7, .inl (cJ, 13, .inr (.inl n_f7))), (b 1, oX0 bt t_lines t_span t_rule t_odds t_wide t_high t_creeks t_houses t_widows t_acts)]) hP hD hS hA [] [0, 1, 2, 3] rfl rfl rfl (by decide) (va_runS (As := [.int r14]) (rest := []) ⟨hx, hb, hml, hown, hts⟩ (f_X9_oneIf l G cI cJ cZ cB cQ _ r14) (va_cwS 1 hts (gS w_661 w_662 w_1 w_663) rfl rfl rfl hd_X9_oneIf ⟨Nat.le_of_ble_eq_true rfl, Nat.le_of_ble_eq_true rfl⟩) (mS hK hZ hP hD [] rfl rfl [.int r14]) rfl rfl hl.1 rfl (lv_room (Nat.le_of_ble_eq_true rfl)) dX9_road_42 ⟨Nat.le_of_ble_eq_true rfl, Nat.le_of_ble_eq_true rfl⟩) (fun r19 u20 H locs hw21 hP hD hS => ?_)
      try dsimp only at hw21
      have hP : va_P G vwCl [(h0, oX9 b), (b 4, oX6 bn n_field n_houses), (bn 7, .inl (cJ, 13, .inr (.inl n_f7))), (b 1, oX0 bt t_lines t_span t_rule t_odds t_wide t_high t_creeks t_houses t_widows t_acts)] H := hP
      have hD : va_D A [(h0, oX9 b), (b 4, oX6 bn n_field n_houses), (bn 7, .inl (cJ, 13, .inr (.inl n_f7))), (b 1, oX0 bt t_lines t_span t_rule t_odds t_wide t_high t_creeks t_houses t_widows t_acts)] := hD
      obtain ⟨w22, w23⟩ : 0 ≤ r19.toInt ∧ r19.toInt ≤ 1 := hw21
      exact hret _ _ _ _ r19 () (hP.sub (ws' := [(h0, oX9 b), (b 1, oX0 bt t_lines t_span t_rule t_odds t_wide t_high t_creeks t_houses t_widows t_acts), (b 4, oX6 bn n_field n_houses), (bn 7, .inl (cJ, 13, .inr (.inl n_f7)))]) [0, 3, 1, 2] rfl) (hD.sub (ws' := [(h0, oX9 b), (b 1, oX0 bt t_lines t_span t_rule t_odds t_wide t_high t_creeks t_houses t_widows t_acts), (b 4, oX6 bn n_field n_houses), (bn 7, .inl (cJ, 13, .inr (.inl n_f7)))]) [0, 3, 1, 2] rfl rfl) hS dX9_road_45 trivial
    · skip
      refine lv_if_ne (tgt := 29) hx hb dX9_road_23 (by decide) (fun c24 => absurd (by decide) c24) (fun c24 => ?_)
      refine lv_bipush (v := (-2)) hx hb dX9_road_26 (by decide) ?_
      exact hret _ _ _ _ (-2) () (hP.sub (ws' := [(h0, oX9 b), (b 1, oX0 bt t_lines t_span t_rule t_odds t_wide t_high t_creeks t_houses t_widows t_acts), (b 4, oX6 bn n_field n_houses), (bn 7, .inl (cJ, 13, .inr (.inl n_f7)))]) [0, 3, 1, 2] rfl) (hD.sub (ws' := [(h0, oX9 b), (b 1, oX0 bt t_lines t_span t_rule t_odds t_wide t_high t_creeks t_houses t_widows t_acts), (b 4, oX6 bn n_field n_houses), (bn 7, .inl (cJ, 13, .inr (.inl n_f7)))]) [0, 3, 1, 2] rfl rfl) hS dX9_road_28 trivial
set_option maxHeartbeats 4000000 in
set_option maxRecDepth 100000 in
theorem f_X9_roads (l : Launch) (G : va_G) (cI cJ cZ cB cQ : ClassId) (sz : Nat) (h0 : Nat) (p0 : Int32) (b : Nat → Nat) (bt : Nat → Nat) (t_lines : Int32) (t_span : Int32) (t_rule : Int32) (t_odds : Int32) (t_wide : Int32) (t_high : Int32) (t_creeks : Int32) (t_houses : Int32) (t_widows : Int32) (t_acts : Int32) (bn : Nat → Nat) (n_field : Int64) (n_houses : Int32) (n_f7 : Nat → Int64) (hl_t_span : 0 ≤ t_span.toInt) (hh_t_span : t_span.toInt ≤ 12) (hl_t_rule : 0 ≤ t_rule.toInt) (hh_t_rule : t_rule.toInt ≤ 3) (hl_t_odds : 0 ≤ t_odds.toInt) (hh_t_odds : t_odds.toInt ≤ 10) (hl_t_wide : 0 ≤ t_wide.toInt) (hh_t_wide : t_wide.toInt ≤ 8) (hl_t_high : 0 ≤ t_high.toInt) (hh_t_high : t_high.toInt ≤ 8) (hl_t_creeks : 0 ≤ t_creeks.toInt) (hh_t_creeks : t_creeks.toInt ≤ 12) (hl_t_houses : 0 ≤ t_houses.toInt) (hh_t_houses : t_houses.toInt ≤ 6) (hl_t_widows : 0 ≤ t_widows.toInt) (hh_t_widows : t_widows.toInt ≤ 7) (hl_t_acts : 0 ≤ t_acts.toInt) (hh_t_acts : t_acts.toInt ≤ 30) (hl_n_houses : 0 ≤ n_houses.toInt) (hh_n_houses : n_houses.toInt ≤ 6) : CI l yX9_roads (wl_ yX9_roads cX9_roads 2 (some .int)) ({ frames := 1, cells := 0, slots := 0, locals := 21 } : Room) G (TY cI cJ cZ cB cQ) [.ref h0, .int p0] [(h0, oX9 b), (b 1, oX0 bt t_lines t_span t_rule t_odds t_wide t_high t_creeks t_houses t_widows t_acts), (b 4, oX6 bn n_field n_houses), (bn 7, .inl (cJ, 13, .inr (.inl n_f7)))] sz (fun (r : Int32) (u : Unit) => True) (fun _ : Unit => [(h0, oX9 b), (b 1, oX0 bt t_lines t_span t_rule t_odds t_wide t_high t_creeks t_houses t_widows t_acts), (b 4, oX6 bn n_field n_houses), (bn 7, .inl (cJ, 13, .inr (.inl n_f7)))]) 0 0 := by
  refine CI.go (cc := cX9_roads) (maxL := 2) (ret := (some .int)) (by decide) rfl (Nat.le_of_ble_eq_true rfl) ?_
  intro p e s m below meth c A ls Q hBd hret
  obtain ⟨hx, hb, hr, hml, hts, hown, hlk, hnm, hP, hK, hD, hA, hZ, hl⟩ := hBd
  have hown : s.vm.findClass RX9 = some m.cls := hown
  have hl : lv_has ls 2 [(0, .ref h0), (1, .int p0)] := hl
  have hS : va_S A s.heap s.heap [] := va_S.rf
  refine lv_aload_n hx hb dX9_roads_0 rfl (lv_at hl 0 rfl) ?_
  refine va_get (D := G) (ci := 9) (v := .ref (b 1)) (C := RX9) (T := TX9) (N := 11) hx hb hts iG_X9 hown hK hP 0 rfl rfl 1 (by decide) (hts _ w_352) (fun _ h9 => h9) rfl dX9_roads_1 ?_
  refine lv_iload_n hx hb dX9_roads_4 rfl (lv_at hl 1 rfl) ?_
  refine k_i (wc := [(b 1, oX0 bt t_lines t_span t_rule t_odds t_wide t_high t_creeks t_houses t_widows t_acts)]) (wr := [(h0, oX9 b), (b 4, oX6 bn n_field n_houses), (bn 7, .inl (cJ, 13, .inr (.inl n_f7)))]) hP hD hS hA [1] [0, 2, 3] rfl rfl rfl (by decide) (va_runVN (As := [.int p0]) (rest := []) ⟨hx, hb, hml, hown, hts⟩ (f_X0_hasYear l G cI cJ cZ cB cQ _ (b 1) p0 p0.toInt bt t_lines t_span t_rule t_odds t_wide t_high t_creeks t_houses t_widows t_acts rfl hl_t_span hh_t_span hl_t_rule hh_t_rule hl_t_odds hh_t_odds hl_t_wide hh_t_wide hl_t_high hh_t_high hl_t_creeks hh_t_creeks hl_t_houses hh_t_houses hl_t_widows hh_t_widows hl_t_acts hh_t_acts) ⟨va_cnB (host := "WidowRoads") 1 hts (gW w_727) rfl rfl rfl (nz_nw hZ nw_724 rfl) (hts _ w_4) hd_X0_hasYear ⟨Nat.le_of_ble_eq_true rfl, Nat.le_of_ble_eq_true rfl⟩, (hts _ w_726), (hts _ wp_39)⟩ (mV hK hZ hP hD [1] rfl rfl [.int p0] 1 0 rfl rfl) rfl rfl hl.1 rfl (lv_room (Nat.le_of_ble_eq_true rfl)) dX9_roads_5 ⟨Nat.le_of_ble_eq_true rfl, Nat.le_of_ble_eq_true rfl⟩) (fun r1 u2 H locs hw3 hP hD hS => ?_)
  try dsimp only at hw3
  have hP : va_P G vwCl [(h0, oX9 b), (b 4, oX6 bn n_field n_houses), (bn 7, .inl (cJ, 13, .inr (.inl n_f7))), (b 1, oX0 bt t_lines t_span t_rule t_odds t_wide t_high t_creeks t_houses t_widows t_acts)] H := hP
  have hD : va_D A [(h0, oX9 b), (b 4, oX6 bn n_field n_houses), (bn 7, .inl (cJ, 13, .inr (.inl n_f7))), (b 1, oX0 bt t_lines t_span t_rule t_odds t_wide t_high t_creeks t_houses t_widows t_acts)] := hD
  rcases hw3 with ⟨rfl, a5, a6⟩ | rfl
  · skip
    refine lv_if_eq (tgt := 26) hx hb dX9_roads_8 (by decide) (fun c7 => absurd c7 (by decide)) (fun c7 => ?_)
    refine lv_aload_n hx hb dX9_roads_11 rfl (lv_at hl 0 rfl) ?_
    refine va_get (D := G) (ci := 9) (v := .ref (b 4)) (C := RX9) (T := TX9) (N := 11) hx hb hts iG_X9 hown hK hP 0 rfl rfl 4 (by decide) (hts _ w_355) (fun _ h9 => h9) rfl dX9_roads_12 ?_
    refine va_getN (D := G) (ci := 6) (v := .ref (bn 7)) (C := RX6) (T := TX6) (N := 12) hx hb hts iG_X6 hown hK hP 1 rfl rfl 7 (by decide) (nz_use hZ nw_249 rfl) (fun _ h9 => h9) rfl dX9_roads_15 ?_
    refine lv_iload_n hx hb dX9_roads_18 rfl (lv_at hl 1 rfl) ?_
    refine va_lald hx hb hK hP 2 1 rfl rfl (ix_in rfl (by omega) (by omega)) dX9_roads_19 ?_
    refine lv_topl (fun v8 ev8 => ?_)
    refine k_i (wc := []) (wr := [(h0, oX9 b), (b 4, oX6 bn n_field n_houses), (bn 7, .inl (cJ, 13, .inr (.inl n_f7))), (b 1, oX0 bt t_lines t_span t_rule t_odds t_wide t_high t_creeks t_houses t_widows t_acts)]) hP hD hS hA [] [0, 1, 2, 3] rfl rfl rfl (by decide) (va_runS (As := [.long v8]) (rest := []) ⟨hx, hb, hml, hown, hts⟩ (f_J13_bitCount_95d88 l G cI cJ cZ cB cQ _ v8) (va_cwS 1 hts (gS w_639 w_640 w_18 w_641) rfl rfl rfl hd_J13_bitCount_95d88 ⟨Nat.le_of_ble_eq_true rfl, Nat.le_of_ble_eq_true rfl⟩) (mS hK hZ hP hD [] rfl rfl [.long v8]) rfl rfl hl.1 rfl (lv_room (Nat.le_of_ble_eq_true rfl)) dX9_roads_20 ⟨Nat.le_of_ble_eq_true rfl, Nat.le_of_ble_eq_true rfl⟩) (fun r9 u10 H locs hw11 hP hD hS => ?_)
    try dsimp only at hw11
    have hP : va_P G vwCl [(h0, oX9 b), (b 4, oX6 bn n_field n_houses), (bn 7, .inl (cJ, 13, .inr (.inl n_f7))), (b 1, oX0 bt t_lines t_span t_rule t_odds t_wide t_high t_creeks t_houses t_widows t_acts)] H := hP
    have hD : va_D A [(h0, oX9 b), (b 4, oX6 bn n_field n_houses), (bn 7, .inl (cJ, 13, .inr (.inl n_f7))), (b 1, oX0 bt t_lines t_span t_rule t_odds t_wide t_high t_creeks t_houses t_widows t_acts)] := hD
    obtain ⟨w12, w13⟩ : 0 ≤ r9.toInt ∧ r9.toInt ≤ 127 := hw11
    refine lv_goto (tgt := 28) hx hb dX9_roads_23 (by decide) ?_
    exact hret _ _ _ _ r9 () (hP.sub (ws' := [(h0, oX9 b), (b 1, oX0 bt t_lines t_span t_rule t_odds t_wide t_high t_creeks t_houses t_widows t_acts), (b 4, oX6 bn n_field n_houses), (bn 7, .inl (cJ, 13, .inr (.inl n_f7)))]) [0, 3, 1, 2] rfl) (hD.sub (ws' := [(h0, oX9 b), (b 1, oX0 bt t_lines t_span t_rule t_odds t_wide t_high t_creeks t_houses t_widows t_acts), (b 4, oX6 bn n_field n_houses), (bn 7, .inl (cJ, 13, .inr (.inl n_f7)))]) [0, 3, 1, 2] rfl rfl) hS dX9_roads_28 trivial
  · skip
    refine lv_if_eq (tgt := 26) hx hb dX9_roads_8 (by decide) (fun c14 => ?_) (fun c14 => absurd (by decide) c14)
    refine lv_bipush (v := (-2)) hx hb dX9_roads_26 (by decide) ?_
    exact hret _ _ _ _ (-2) () (hP.sub (ws' := [(h0, oX9 b), (b 1, oX0 bt t_lines t_span t_rule t_odds t_wide t_high t_creeks t_houses t_widows t_acts), (b 4, oX6 bn n_field n_houses), (bn 7, .inl (cJ, 13, .inr (.inl n_f7)))]) [0, 3, 1, 2] rfl) (hD.sub (ws' := [(h0, oX9 b), (b 1, oX0 bt t_lines t_span t_rule t_odds t_wide t_high t_creeks t_houses t_widows t_acts), (b 4, oX6 bn n_field n_houses), (bn 7, .inl (cJ, 13, .inr (.inl n_f7)))]) [0, 3, 1, 2] rfl rfl) hS dX9_roads_28 trivial
set_option maxHeartbeats 4000000 in
set_option maxRecDepth 100000 in
theorem f_X9_pegs (l : Launch) (G : va_G) (cI cJ cZ cB cQ : ClassId) (sz : Nat) (h0 : Nat) (p0 : Int32) (b : Nat → Nat) (bt : Nat → Nat) (t_lines : Int32) (t_span : Int32) (t_rule : Int32) (t_odds : Int32) (t_wide : Int32) (t_high : Int32) (t_creeks : Int32) (t_houses : Int32) (t_widows : Int32) (t_acts : Int32) (bn : Nat → Nat) (n_field : Int64) (n_houses : Int32) (n_f8 : Nat → Int64) (n_f9 : Nat → Int64) (hl_t_span : 0 ≤ t_span.toInt) (hh_t_span : t_span.toInt ≤ 12) (hl_t_rule : 0 ≤ t_rule.toInt) (hh_t_rule : t_rule.toInt ≤ 3) (hl_t_odds : 0 ≤ t_odds.toInt) (hh_t_odds : t_odds.toInt ≤ 10) (hl_t_wide : 0 ≤ t_wide.toInt) (hh_t_wide : t_wide.toInt ≤ 8) (hl_t_high : 0 ≤ t_high.toInt) (hh_t_high : t_high.toInt ≤ 8) (hl_t_creeks : 0 ≤ t_creeks.toInt) (hh_t_creeks : t_creeks.toInt ≤ 12) (hl_t_houses : 0 ≤ t_houses.toInt) (hh_t_houses : t_houses.toInt ≤ 6) (hl_t_widows : 0 ≤ t_widows.toInt) (hh_t_widows : t_widows.toInt ≤ 7) (hl_t_acts : 0 ≤ t_acts.toInt) (hh_t_acts : t_acts.toInt ≤ 30) (hl_n_houses : 0 ≤ n_houses.toInt) (hh_n_houses : n_houses.toInt ≤ 6) : CI l yX9_pegs (wl_ yX9_pegs cX9_pegs 2 (some .int)) ({ frames := 2, cells := 0, slots := 0, locals := 42 } : Room) G (TY cI cJ cZ cB cQ) [.ref h0, .int p0] [(h0, oX9 b), (b 1, oX0 bt t_lines t_span t_rule t_odds t_wide t_high t_creeks t_houses t_widows t_acts), (b 4, oX6 bn n_field n_houses), (bn 8, .inl (cJ, 13, .inr (.inl n_f8))), (bn 9, .inl (cJ, 13, .inr (.inl n_f9)))] sz (fun (r : Int32) (u : Unit) => True) (fun _ : Unit => [(h0, oX9 b), (b 1, oX0 bt t_lines t_span t_rule t_odds t_wide t_high t_creeks t_houses t_widows t_acts), (b 4, oX6 bn n_field n_houses), (bn 8, .inl (cJ, 13, .inr (.inl n_f8))), (bn 9, .inl (cJ, 13, .inr (.inl n_f9)))]) 0 0 := by
  refine CI.go (cc := cX9_pegs) (maxL := 2) (ret := (some .int)) (by decide) rfl (Nat.le_of_ble_eq_true rfl) ?_
  intro p e s m below meth c A ls Q hBd hret
  obtain ⟨hx, hb, hr, hml, hts, hown, hlk, hnm, hP, hK, hD, hA, hZ, hl⟩ := hBd
  have hown : s.vm.findClass RX9 = some m.cls := hown
  have hl : lv_has ls 2 [(0, .ref h0), (1, .int p0)] := hl
  have hS : va_S A s.heap s.heap [] := va_S.rf
  refine lv_aload_n hx hb dX9_pegs_0 rfl (lv_at hl 0 rfl) ?_
  refine va_get (D := G) (ci := 9) (v := .ref (b 1)) (C := RX9) (T := TX9) (N := 11) hx hb hts iG_X9 hown hK hP 0 rfl rfl 1 (by decide) (hts _ w_352) (fun _ h9 => h9) rfl dX9_pegs_1 ?_
  refine lv_iload_n hx hb dX9_pegs_4 rfl (lv_at hl 1 rfl) ?_
  refine k_i (wc := [(b 1, oX0 bt t_lines t_span t_rule t_odds t_wide t_high t_creeks t_houses t_widows t_acts)]) (wr := [(h0, oX9 b), (b 4, oX6 bn n_field n_houses), (bn 8, .inl (cJ, 13, .inr (.inl n_f8))), (bn 9, .inl (cJ, 13, .inr (.inl n_f9)))]) hP hD hS hA [1] [0, 2, 3, 4] rfl rfl rfl (by decide) (va_runVN (As := [.int p0]) (rest := []) ⟨hx, hb, hml, hown, hts⟩ (f_X0_hasYear l G cI cJ cZ cB cQ _ (b 1) p0 p0.toInt bt t_lines t_span t_rule t_odds t_wide t_high t_creeks t_houses t_widows t_acts rfl hl_t_span hh_t_span hl_t_rule hh_t_rule hl_t_odds hh_t_odds hl_t_wide hh_t_wide hl_t_high hh_t_high hl_t_creeks hh_t_creeks hl_t_houses hh_t_houses hl_t_widows hh_t_widows hl_t_acts hh_t_acts) ⟨va_cnB (host := "WidowRoads") 1 hts (gW w_727) rfl rfl rfl (nz_nw hZ nw_724 rfl) (hts _ w_4) hd_X0_hasYear ⟨Nat.le_of_ble_eq_true rfl, Nat.le_of_ble_eq_true rfl⟩, (hts _ w_726), (hts _ wp_39)⟩ (mV hK hZ hP hD [1] rfl rfl [.int p0] 1 0 rfl rfl) rfl rfl hl.1 rfl (lv_room (Nat.le_of_ble_eq_true rfl)) dX9_pegs_5 ⟨Nat.le_of_ble_eq_true rfl, Nat.le_of_ble_eq_true rfl⟩) (fun r1 u2 H locs hw3 hP hD hS => ?_)
  try dsimp only at hw3
  have hP : va_P G vwCl [(h0, oX9 b), (b 4, oX6 bn n_field n_houses), (bn 8, .inl (cJ, 13, .inr (.inl n_f8))), (bn 9, .inl (cJ, 13, .inr (.inl n_f9))), (b 1, oX0 bt t_lines t_span t_rule t_odds t_wide t_high t_creeks t_houses t_widows t_acts)] H := hP
  have hD : va_D A [(h0, oX9 b), (b 4, oX6 bn n_field n_houses), (bn 8, .inl (cJ, 13, .inr (.inl n_f8))), (bn 9, .inl (cJ, 13, .inr (.inl n_f9))), (b 1, oX0 bt t_lines t_span t_rule t_odds t_wide t_high t_creeks t_houses t_widows t_acts)] := hD
  rcases hw3 with ⟨rfl, a5, a6⟩ | rfl
  · skip
    refine lv_if_eq (tgt := 22) hx hb dX9_pegs_8 (by decide) (fun c7 => absurd c7 (by decide)) (fun c7 => ?_)
    refine lv_aload_n hx hb dX9_pegs_11 rfl (lv_at hl 0 rfl) ?_
    refine va_get (D := G) (ci := 9) (v := .ref (b 4)) (C := RX9) (T := TX9) (N := 11) hx hb hts iG_X9 hown hK hP 0 rfl rfl 4 (by decide) (hts _ w_355) (fun _ h9 => h9) rfl dX9_pegs_12 ?_
    refine lv_iload_n hx hb dX9_pegs_15 rfl (lv_at hl 1 rfl) ?_
    refine k_i (wc := [(b 4, oX6 bn n_field n_houses), (bn 8, .inl (cJ, 13, .inr (.inl n_f8))), (bn 9, .inl (cJ, 13, .inr (.inl n_f9)))]) (wr := [(h0, oX9 b), (b 1, oX0 bt t_lines t_span t_rule t_odds t_wide t_high t_creeks t_houses t_widows t_acts)]) hP hD hS hA [1, 2, 3] [0, 4] rfl rfl rfl (by decide) (va_runVN (As := [.int p0]) (rest := []) ⟨hx, hb, hml, hown, hts⟩ (f_X6_pegsIn l G cI cJ cZ cB cQ _ (b 4) p0 bn n_field n_houses n_f8 n_f9 (by omega) (by omega) hl_n_houses hh_n_houses) ⟨va_cnB (host := "WidowRoads") 1 hts (gW w_772) rfl rfl rfl (nz_nw hZ nw_769 rfl) (hts _ w_6) hd_X6_pegsIn ⟨Nat.le_of_ble_eq_true rfl, Nat.le_of_ble_eq_true rfl⟩, (hts _ w_771), (hts _ wp_44)⟩ (mV hK hZ hP hD [1, 2, 3] rfl rfl [.int p0] 1 6 rfl rfl) rfl rfl hl.1 rfl (lv_room (Nat.le_of_ble_eq_true rfl)) dX9_pegs_16 ⟨Nat.le_of_ble_eq_true rfl, Nat.le_of_ble_eq_true rfl⟩) (fun r8 u9 H locs hw10 hP hD hS => ?_)
    try dsimp only at hw10
    have hP : va_P G vwCl [(h0, oX9 b), (b 1, oX0 bt t_lines t_span t_rule t_odds t_wide t_high t_creeks t_houses t_widows t_acts), (b 4, oX6 bn n_field n_houses), (bn 8, .inl (cJ, 13, .inr (.inl n_f8))), (bn 9, .inl (cJ, 13, .inr (.inl n_f9)))] H := hP
    have hD : va_D A [(h0, oX9 b), (b 1, oX0 bt t_lines t_span t_rule t_odds t_wide t_high t_creeks t_houses t_widows t_acts), (b 4, oX6 bn n_field n_houses), (bn 8, .inl (cJ, 13, .inr (.inl n_f8))), (bn 9, .inl (cJ, 13, .inr (.inl n_f9)))] := hD
    refine lv_goto (tgt := 24) hx hb dX9_pegs_19 (by decide) ?_
    exact hret _ _ _ _ r8 () hP hD hS dX9_pegs_24 trivial
  · skip
    refine lv_if_eq (tgt := 22) hx hb dX9_pegs_8 (by decide) (fun c11 => ?_) (fun c11 => absurd (by decide) c11)
    refine lv_bipush (v := (-2)) hx hb dX9_pegs_22 (by decide) ?_
    exact hret _ _ _ _ (-2) () (hP.sub (ws' := [(h0, oX9 b), (b 1, oX0 bt t_lines t_span t_rule t_odds t_wide t_high t_creeks t_houses t_widows t_acts), (b 4, oX6 bn n_field n_houses), (bn 8, .inl (cJ, 13, .inr (.inl n_f8))), (bn 9, .inl (cJ, 13, .inr (.inl n_f9)))]) [0, 4, 1, 2, 3] rfl) (hD.sub (ws' := [(h0, oX9 b), (b 1, oX0 bt t_lines t_span t_rule t_odds t_wide t_high t_creeks t_houses t_widows t_acts), (b 4, oX6 bn n_field n_houses), (bn 8, .inl (cJ, 13, .inr (.inl n_f8))), (bn 9, .inl (cJ, 13, .inr (.inl n_f9)))]) [0, 4, 1, 2, 3] rfl rfl) hS dX9_pegs_24 trivial
set_option maxHeartbeats 4000000 in
set_option maxRecDepth 100000 in
theorem f_X9_joins (l : Launch) (G : va_G) (cI cJ cZ cB cQ : ClassId) (sz : Nat) (h0 : Nat) (p0 : Int32) (p1 : Int32) (b : Nat → Nat) (bt : Nat → Nat) (t_lines : Int32) (t_span : Int32) (t_rule : Int32) (t_odds : Int32) (t_wide : Int32) (t_high : Int32) (t_creeks : Int32) (t_houses : Int32) (t_widows : Int32) (t_acts : Int32) (bn : Nat → Nat) (n_field : Int64) (n_houses : Int32) (n_f7 : Nat → Int64) (n_f8 : Nat → Int64) (n_f9 : Nat → Int64) (k_cells : Int64) (k_across : Int64) (k_down : Int64) (hl_t_span : 0 ≤ t_span.toInt) (hh_t_span : t_span.toInt ≤ 12) (hl_t_rule : 0 ≤ t_rule.toInt) (hh_t_rule : t_rule.toInt ≤ 3) (hl_t_odds : 0 ≤ t_odds.toInt) (hh_t_odds : t_odds.toInt ≤ 10) (hl_t_wide : 0 ≤ t_wide.toInt) (hh_t_wide : t_wide.toInt ≤ 8) (hl_t_high : 0 ≤ t_high.toInt) (hh_t_high : t_high.toInt ≤ 8) (hl_t_creeks : 0 ≤ t_creeks.toInt) (hh_t_creeks : t_creeks.toInt ≤ 12) (hl_t_houses : 0 ≤ t_houses.toInt) (hh_t_houses : t_houses.toInt ≤ 6) (hl_t_widows : 0 ≤ t_widows.toInt) (hh_t_widows : t_widows.toInt ≤ 7) (hl_t_acts : 0 ≤ t_acts.toInt) (hh_t_acts : t_acts.toInt ≤ 30) (hl_n_houses : 0 ≤ n_houses.toInt) (hh_n_houses : n_houses.toInt ≤ 6) : CI l yX9_joins (wl_ yX9_joins cX9_joins 4 (some .int)) ({ frames := 2, cells := 0, slots := 0, locals := 46 } : Room) G (TY cI cJ cZ cB cQ) [.ref h0, .int p0, .int p1] [(h0, oX9 b), (b 1, oX0 bt t_lines t_span t_rule t_odds t_wide t_high t_creeks t_houses t_widows t_acts), (b 4, oX6 bn n_field n_houses), (bn 7, .inl (cJ, 13, .inr (.inl n_f7))), (bn 8, .inl (cJ, 13, .inr (.inl n_f8))), (bn 9, .inl (cJ, 13, .inr (.inl n_f9))), (b 7, oX3 z0 k_cells k_across k_down)] sz (fun (r : Int32) (u : Int64 × Int64 × Int64) => True) (fun u : Int64 × Int64 × Int64 => [(h0, oX9 b), (b 1, oX0 bt t_lines t_span t_rule t_odds t_wide t_high t_creeks t_houses t_widows t_acts), (b 4, oX6 bn n_field n_houses), (bn 7, .inl (cJ, 13, .inr (.inl n_f7))), (bn 8, .inl (cJ, 13, .inr (.inl n_f8))), (bn 9, .inl (cJ, 13, .inr (.inl n_f9))), (b 7, oX3 z0 u.1 u.2.1 u.2.2)]) 0 0 := by
  refine CI.go (cc := cX9_joins) (maxL := 4) (ret := (some .int)) (by decide) rfl (Nat.le_of_ble_eq_true rfl) ?_
  intro p e s m below meth c A ls Q hBd hret
  obtain ⟨hx, hb, hr, hml, hts, hown, hlk, hnm, hP, hK, hD, hA, hZ, hl⟩ := hBd
  have hown : s.vm.findClass RX9 = some m.cls := hown
  have hl : lv_has ls 4 [(0, .ref h0), (1, .int p0), (2, .int p1)] := hl
  have hS : va_S A s.heap s.heap [] := va_S.rf
  refine lv_aload_n hx hb dX9_joins_0 rfl (lv_at hl 0 rfl) ?_
  refine va_get (D := G) (ci := 9) (v := .ref (b 1)) (C := RX9) (T := TX9) (N := 11) hx hb hts iG_X9 hown hK hP 0 rfl rfl 1 (by decide) (hts _ w_352) (fun _ h9 => h9) rfl dX9_joins_1 ?_
  refine lv_iload_n hx hb dX9_joins_4 rfl (lv_at hl 1 rfl) ?_
  obtain ⟨v1, ev1⟩ : ∃ y : Int64, p0.toInt64 = y := ⟨_, rfl⟩
  have tv1 : v1.toInt = p0.toInt := ti_wide rfl ev1
  refine lv_i2l (v := v1) hx hb dX9_joins_5 ev1 ?_
  refine k_i (wc := [(b 1, oX0 bt t_lines t_span t_rule t_odds t_wide t_high t_creeks t_houses t_widows t_acts)]) (wr := [(h0, oX9 b), (b 4, oX6 bn n_field n_houses), (bn 7, .inl (cJ, 13, .inr (.inl n_f7))), (bn 8, .inl (cJ, 13, .inr (.inl n_f8))), (bn 9, .inl (cJ, 13, .inr (.inl n_f9))), (b 7, oX3 z0 k_cells k_across k_down)]) hP hD hS hA [1] [0, 2, 3, 4, 5, 6] rfl rfl rfl (by decide) (va_runVN (As := [.long v1]) (rest := []) ⟨hx, hb, hml, hown, hts⟩ (f_X0_spotOf l G cI cJ cZ cB cQ _ (b 1) v1 bt t_lines t_span t_rule t_odds t_wide t_high t_creeks t_houses t_widows t_acts hl_t_span hh_t_span hl_t_rule hh_t_rule hl_t_odds hh_t_odds hl_t_wide hh_t_wide hl_t_high hh_t_high hl_t_creeks hh_t_creeks hl_t_houses hh_t_houses hl_t_widows hh_t_widows hl_t_acts hh_t_acts) ⟨va_cnB (host := "WidowRoads") 1 hts (gW w_656) rfl rfl rfl (nz_nw hZ nw_653 rfl) (hts _ w_4) hd_X0_spotOf ⟨Nat.le_of_ble_eq_true rfl, Nat.le_of_ble_eq_true rfl⟩, (hts _ w_655), (hts _ wp_34)⟩ (mV hK hZ hP hD [1] rfl rfl [.long v1] 1 0 rfl rfl) rfl rfl hl.1 rfl (lv_room (Nat.le_of_ble_eq_true rfl)) dX9_joins_6 ⟨Nat.le_of_ble_eq_true rfl, Nat.le_of_ble_eq_true rfl⟩) (fun r2 u3 H locs hw4 hP hD hS => ?_)
  try dsimp only at hw4
  have hP : va_P G vwCl [(h0, oX9 b), (b 4, oX6 bn n_field n_houses), (bn 7, .inl (cJ, 13, .inr (.inl n_f7))), (bn 8, .inl (cJ, 13, .inr (.inl n_f8))), (bn 9, .inl (cJ, 13, .inr (.inl n_f9))), (b 7, oX3 z0 k_cells k_across k_down), (b 1, oX0 bt t_lines t_span t_rule t_odds t_wide t_high t_creeks t_houses t_widows t_acts)] H := hP
  have hD : va_D A [(h0, oX9 b), (b 4, oX6 bn n_field n_houses), (bn 7, .inl (cJ, 13, .inr (.inl n_f7))), (bn 8, .inl (cJ, 13, .inr (.inl n_f8))), (bn 9, .inl (cJ, 13, .inr (.inl n_f9))), (b 7, oX3 z0 k_cells k_across k_down), (b 1, oX0 bt t_lines t_span t_rule t_odds t_wide t_high t_creeks t_houses t_widows t_acts)] := hD
  refine lv_istore_n (lv' := [(3, .int r2), (0, .ref h0), (1, .int p0), (2, .int p1)]) hx hb dX9_joins_9 rfl hl (by decide) rfl (fun ls hl => ?_)
  refine lv_iload_n hx hb dX9_joins_10 rfl (lv_at hl 0 rfl) ?_
  refine lv_iconst (v := (-1)) hx hb dX9_joins_11 (by decide) ?_
  refine lv_icmp_eq (tgt := 26) hx hb dX9_joins_12 (by decide) (fun c5 => ?_) (fun c5 => ?_)
  · have c5 := i_eq rfl ki_m1 c5
    refine lv_bipush (v := (-2)) hx hb dX9_joins_26 (by decide) ?_
    exact hret _ _ _ _ (-2) (k_cells, k_across, k_down) (hP.sub (ws' := [(h0, oX9 b), (b 1, oX0 bt t_lines t_span t_rule t_odds t_wide t_high t_creeks t_houses t_widows t_acts), (b 4, oX6 bn n_field n_houses), (bn 7, .inl (cJ, 13, .inr (.inl n_f7))), (bn 8, .inl (cJ, 13, .inr (.inl n_f8))), (bn 9, .inl (cJ, 13, .inr (.inl n_f9))), (b 7, oX3 z0 k_cells k_across k_down)]) [0, 6, 1, 2, 3, 4, 5] rfl) (hD.sub (ws' := [(h0, oX9 b), (b 1, oX0 bt t_lines t_span t_rule t_odds t_wide t_high t_creeks t_houses t_widows t_acts), (b 4, oX6 bn n_field n_houses), (bn 7, .inl (cJ, 13, .inr (.inl n_f7))), (bn 8, .inl (cJ, 13, .inr (.inl n_f8))), (bn 9, .inl (cJ, 13, .inr (.inl n_f9))), (b 7, oX3 z0 k_cells k_across k_down)]) [0, 6, 1, 2, 3, 4, 5] rfl rfl) hS dX9_joins_28 trivial
  · have c5 := i_ne rfl ki_m1 c5
    refine lv_aload_n hx hb dX9_joins_15 rfl (lv_at hl 1 rfl) ?_
    refine va_get (D := G) (ci := 9) (v := .ref (b 1)) (C := RX9) (T := TX9) (N := 11) hx hb hts iG_X9 hown hK hP 0 rfl rfl 1 (by decide) (hts _ w_352) (fun _ h9 => h9) rfl dX9_joins_16 ?_
    refine lv_iload_n hx hb dX9_joins_19 rfl (lv_at hl 3 rfl) ?_
    refine k_i (wc := [(b 1, oX0 bt t_lines t_span t_rule t_odds t_wide t_high t_creeks t_houses t_widows t_acts)]) (wr := [(h0, oX9 b), (b 4, oX6 bn n_field n_houses), (bn 7, .inl (cJ, 13, .inr (.inl n_f7))), (bn 8, .inl (cJ, 13, .inr (.inl n_f8))), (bn 9, .inl (cJ, 13, .inr (.inl n_f9))), (b 7, oX3 z0 k_cells k_across k_down)]) hP hD hS hA [6] [0, 1, 2, 3, 4, 5] rfl rfl rfl (by decide) (va_runVN (As := [.int p1]) (rest := []) ⟨hx, hb, hml, hown, hts⟩ (f_X0_hasYear l G cI cJ cZ cB cQ _ (b 1) p1 p1.toInt bt t_lines t_span t_rule t_odds t_wide t_high t_creeks t_houses t_widows t_acts rfl hl_t_span hh_t_span hl_t_rule hh_t_rule hl_t_odds hh_t_odds hl_t_wide hh_t_wide hl_t_high hh_t_high hl_t_creeks hh_t_creeks hl_t_houses hh_t_houses hl_t_widows hh_t_widows hl_t_acts hh_t_acts) ⟨va_cnB (host := "WidowRoads") 1 hts (gW w_727) rfl rfl rfl (nz_nw hZ nw_724 rfl) (hts _ w_4) hd_X0_hasYear ⟨Nat.le_of_ble_eq_true rfl, Nat.le_of_ble_eq_true rfl⟩, (hts _ w_726), (hts _ wp_39)⟩ (mV hK hZ hP hD [6] rfl rfl [.int p1] 6 0 rfl rfl) rfl rfl hl.1 rfl (lv_room (Nat.le_of_ble_eq_true rfl)) dX9_joins_20 ⟨Nat.le_of_ble_eq_true rfl, Nat.le_of_ble_eq_true rfl⟩) (fun r6 u7 H locs hw8 hP hD hS => ?_)
    try dsimp only at hw8
    have hP : va_P G vwCl [(h0, oX9 b), (b 4, oX6 bn n_field n_houses), (bn 7, .inl (cJ, 13, .inr (.inl n_f7))), (bn 8, .inl (cJ, 13, .inr (.inl n_f8))), (bn 9, .inl (cJ, 13, .inr (.inl n_f9))), (b 7, oX3 z0 k_cells k_across k_down), (b 1, oX0 bt t_lines t_span t_rule t_odds t_wide t_high t_creeks t_houses t_widows t_acts)] H := hP
    have hD : va_D A [(h0, oX9 b), (b 4, oX6 bn n_field n_houses), (bn 7, .inl (cJ, 13, .inr (.inl n_f7))), (bn 8, .inl (cJ, 13, .inr (.inl n_f8))), (bn 9, .inl (cJ, 13, .inr (.inl n_f9))), (b 7, oX3 z0 k_cells k_across k_down), (b 1, oX0 bt t_lines t_span t_rule t_odds t_wide t_high t_creeks t_houses t_widows t_acts)] := hD
    rcases hw8 with ⟨rfl, a10, a11⟩ | rfl
    · skip
      refine lv_if_ne (tgt := 29) hx hb dX9_joins_23 (by decide) (fun c12 => ?_) (fun c12 => absurd c12 (by decide))
      refine lv_aload_n hx hb dX9_joins_29 rfl (lv_at hl 1 rfl) ?_
      refine va_get (D := G) (ci := 9) (v := .ref (b 7)) (C := RX9) (T := TX9) (N := 11) hx hb hts iG_X9 hown hK hP 0 rfl rfl 7 (by decide) (hts _ w_358) (fun _ h9 => h9) rfl dX9_joins_30 ?_
      refine lv_aload_n hx hb dX9_joins_33 rfl (lv_at hl 1 rfl) ?_
      refine va_get (D := G) (ci := 9) (v := .ref (b 4)) (C := RX9) (T := TX9) (N := 11) hx hb hts iG_X9 hown hK hP 0 rfl rfl 4 (by decide) (hts _ w_355) (fun _ h9 => h9) rfl dX9_joins_34 ?_
      refine lv_iload_n hx hb dX9_joins_37 rfl (lv_at hl 3 rfl) ?_
      refine k_v (wc := [(b 7, oX3 z0 k_cells k_across k_down), (b 4, oX6 bn n_field n_houses), (bn 7, .inl (cJ, 13, .inr (.inl n_f7))), (bn 8, .inl (cJ, 13, .inr (.inl n_f8))), (bn 9, .inl (cJ, 13, .inr (.inl n_f9)))]) (wr := [(h0, oX9 b), (b 1, oX0 bt t_lines t_span t_rule t_odds t_wide t_high t_creeks t_houses t_widows t_acts)]) hP hD hS hA [5, 1, 2, 3, 4] [0, 6] rfl rfl rfl (by decide) (va_runVN (As := [.ref (b 4), .int p1]) (rest := []) ⟨hx, hb, hml, hown, hts⟩ (f_X3_lay l G cI cJ cZ cB cQ _ (b 7) (b 4) p1 k_cells k_across k_down bn n_field n_houses n_f7 n_f8 n_f9 (by omega) (by omega) hl_n_houses hh_n_houses) ⟨va_cnB (host := "WidowRoads") 2 hts (gW w_781) rfl rfl rfl (nz_nw hZ nw_778 rfl) (hts _ w_8) hd_X3_lay ⟨Nat.le_of_ble_eq_true rfl, Nat.le_of_ble_eq_true rfl⟩, (hts _ w_780), (hts _ wp_45)⟩ (mV hK hZ hP hD [5, 1, 2, 3, 4] rfl rfl [.ref (b 4), .int p1] 5 3 rfl rfl) rfl rfl hl.1 rfl (lv_room (Nat.le_of_ble_eq_true rfl)) dX9_joins_38 ⟨Nat.le_of_ble_eq_true rfl, Nat.le_of_ble_eq_true rfl⟩) (fun u14 H locs hw15 hP hD hS => ?_)
      obtain ⟨o_cellso16, o_acrosso17, o_downo18⟩ := u14
      try dsimp only at hw15
      have hP : va_P G vwCl [(h0, oX9 b), (b 1, oX0 bt t_lines t_span t_rule t_odds t_wide t_high t_creeks t_houses t_widows t_acts), (b 7, oX3 z0 o_cellso16 o_acrosso17 o_downo18), (b 4, oX6 bn n_field n_houses), (bn 7, .inl (cJ, 13, .inr (.inl n_f7))), (bn 8, .inl (cJ, 13, .inr (.inl n_f8))), (bn 9, .inl (cJ, 13, .inr (.inl n_f9)))] H := hP
      have hD : va_D A [(h0, oX9 b), (b 1, oX0 bt t_lines t_span t_rule t_odds t_wide t_high t_creeks t_houses t_widows t_acts), (b 7, oX3 z0 o_cellso16 o_acrosso17 o_downo18), (b 4, oX6 bn n_field n_houses), (bn 7, .inl (cJ, 13, .inr (.inl n_f7))), (bn 8, .inl (cJ, 13, .inr (.inl n_f8))), (bn 9, .inl (cJ, 13, .inr (.inl n_f9)))] := hD
      refine lv_aload_n hx hb dX9_joins_41 rfl (lv_at hl 1 rfl) ?_
      refine va_get (D := G) (ci := 9) (v := .ref (b 7)) (C := RX9) (T := TX9) (N := 11) hx hb hts iG_X9 hown hK hP 0 rfl rfl 7 (by decide) (hts _ w_358) (fun _ h9 => h9) rfl dX9_joins_42 ?_
      refine lv_iload_n hx hb dX9_joins_45 rfl (lv_at hl 0 rfl) ?_
      refine k_i (wc := [(b 7, oX3 z0 o_cellso16 o_acrosso17 o_downo18)]) (wr := [(h0, oX9 b), (b 1, oX0 bt t_lines t_span t_rule t_odds t_wide t_high t_creeks t_houses t_widows t_acts), (b 4, oX6 bn n_field n_houses), (bn 7, .inl (cJ, 13, .inr (.inl n_f7))), (bn 8, .inl (cJ, 13, .inr (.inl n_f8))), (bn 9, .inl (cJ, 13, .inr (.inl n_f9)))]) hP hD hS hA [2] [0, 1, 3, 4, 5, 6] rfl rfl rfl (by decide) (va_runVN (As := [.int r2]) (rest := []) ⟨hx, hb, hml, hown, hts⟩ (f_X3_sidesJoined l G cI cJ cZ cB cQ _ (b 7) r2 o_cellso16 o_acrosso17 o_downo18) ⟨va_cnB (host := "WidowRoads") 1 hts (gW w_785) rfl rfl rfl (nz_nw hZ nw_782 rfl) (hts _ w_8) hd_X3_sidesJoined ⟨Nat.le_of_ble_eq_true rfl, Nat.le_of_ble_eq_true rfl⟩, (hts _ w_784), (hts _ wp_46)⟩ (mV hK hZ hP hD [2] rfl rfl [.int r2] 2 3 rfl rfl) rfl rfl hl.1 rfl (lv_room (Nat.le_of_ble_eq_true rfl)) dX9_joins_46 ⟨Nat.le_of_ble_eq_true rfl, Nat.le_of_ble_eq_true rfl⟩) (fun r19 u20 H locs hw21 hP hD hS => ?_)
      try dsimp only at hw21
      have hP : va_P G vwCl [(h0, oX9 b), (b 1, oX0 bt t_lines t_span t_rule t_odds t_wide t_high t_creeks t_houses t_widows t_acts), (b 4, oX6 bn n_field n_houses), (bn 7, .inl (cJ, 13, .inr (.inl n_f7))), (bn 8, .inl (cJ, 13, .inr (.inl n_f8))), (bn 9, .inl (cJ, 13, .inr (.inl n_f9))), (b 7, oX3 z0 o_cellso16 o_acrosso17 o_downo18)] H := hP
      have hD : va_D A [(h0, oX9 b), (b 1, oX0 bt t_lines t_span t_rule t_odds t_wide t_high t_creeks t_houses t_widows t_acts), (b 4, oX6 bn n_field n_houses), (bn 7, .inl (cJ, 13, .inr (.inl n_f7))), (bn 8, .inl (cJ, 13, .inr (.inl n_f8))), (bn 9, .inl (cJ, 13, .inr (.inl n_f9))), (b 7, oX3 z0 o_cellso16 o_acrosso17 o_downo18)] := hD
      exact hret _ _ _ _ r19 (o_cellso16, o_acrosso17, o_downo18) hP hD hS dX9_joins_49 trivial
    · skip
      refine lv_if_ne (tgt := 29) hx hb dX9_joins_23 (by decide) (fun c22 => absurd (by decide) c22) (fun c22 => ?_)
      refine lv_bipush (v := (-2)) hx hb dX9_joins_26 (by decide) ?_
      exact hret _ _ _ _ (-2) (k_cells, k_across, k_down) (hP.sub (ws' := [(h0, oX9 b), (b 1, oX0 bt t_lines t_span t_rule t_odds t_wide t_high t_creeks t_houses t_widows t_acts), (b 4, oX6 bn n_field n_houses), (bn 7, .inl (cJ, 13, .inr (.inl n_f7))), (bn 8, .inl (cJ, 13, .inr (.inl n_f8))), (bn 9, .inl (cJ, 13, .inr (.inl n_f9))), (b 7, oX3 z0 k_cells k_across k_down)]) [0, 6, 1, 2, 3, 4, 5] rfl) (hD.sub (ws' := [(h0, oX9 b), (b 1, oX0 bt t_lines t_span t_rule t_odds t_wide t_high t_creeks t_houses t_widows t_acts), (b 4, oX6 bn n_field n_houses), (bn 7, .inl (cJ, 13, .inr (.inl n_f7))), (bn 8, .inl (cJ, 13, .inr (.inl n_f8))), (bn 9, .inl (cJ, 13, .inr (.inl n_f9))), (b 7, oX3 z0 k_cells k_across k_down)]) [0, 6, 1, 2, 3, 4, 5] rfl rfl) hS dX9_joins_28 trivial
set_option maxHeartbeats 4000000 in
set_option maxRecDepth 100000 in
theorem f_X9_corners (l : Launch) (G : va_G) (cI cJ cZ cB cQ : ClassId) (sz : Nat) (h0 : Nat) (p0 : Int32) (p1 : Int32) (b : Nat → Nat) (bt : Nat → Nat) (t_lines : Int32) (t_span : Int32) (t_rule : Int32) (t_odds : Int32) (t_wide : Int32) (t_high : Int32) (t_creeks : Int32) (t_houses : Int32) (t_widows : Int32) (t_acts : Int32) (bn : Nat → Nat) (n_field : Int64) (n_houses : Int32) (n_f7 : Nat → Int64) (n_f8 : Nat → Int64) (n_f9 : Nat → Int64) (k_cells : Int64) (k_across : Int64) (k_down : Int64) (hl_t_span : 0 ≤ t_span.toInt) (hh_t_span : t_span.toInt ≤ 12) (hl_t_rule : 0 ≤ t_rule.toInt) (hh_t_rule : t_rule.toInt ≤ 3) (hl_t_odds : 0 ≤ t_odds.toInt) (hh_t_odds : t_odds.toInt ≤ 10) (hl_t_wide : 0 ≤ t_wide.toInt) (hh_t_wide : t_wide.toInt ≤ 8) (hl_t_high : 0 ≤ t_high.toInt) (hh_t_high : t_high.toInt ≤ 8) (hl_t_creeks : 0 ≤ t_creeks.toInt) (hh_t_creeks : t_creeks.toInt ≤ 12) (hl_t_houses : 0 ≤ t_houses.toInt) (hh_t_houses : t_houses.toInt ≤ 6) (hl_t_widows : 0 ≤ t_widows.toInt) (hh_t_widows : t_widows.toInt ≤ 7) (hl_t_acts : 0 ≤ t_acts.toInt) (hh_t_acts : t_acts.toInt ≤ 30) (hl_n_houses : 0 ≤ n_houses.toInt) (hh_n_houses : n_houses.toInt ≤ 6) : CI l yX9_corners (wl_ yX9_corners cX9_corners 3 (some .int)) ({ frames := 3, cells := 0, slots := 0, locals := 69 } : Room) G (TY cI cJ cZ cB cQ) [.ref h0, .int p0, .int p1] [(h0, oX9 b), (b 1, oX0 bt t_lines t_span t_rule t_odds t_wide t_high t_creeks t_houses t_widows t_acts), (b 4, oX6 bn n_field n_houses), (bn 7, .inl (cJ, 13, .inr (.inl n_f7))), (bn 8, .inl (cJ, 13, .inr (.inl n_f8))), (bn 9, .inl (cJ, 13, .inr (.inl n_f9))), (b 7, oX3 z0 k_cells k_across k_down)] sz (fun (r : Int32) (u : Int64 × Int64 × Int64) => True) (fun u : Int64 × Int64 × Int64 => [(h0, oX9 b), (b 1, oX0 bt t_lines t_span t_rule t_odds t_wide t_high t_creeks t_houses t_widows t_acts), (b 4, oX6 bn n_field n_houses), (bn 7, .inl (cJ, 13, .inr (.inl n_f7))), (bn 8, .inl (cJ, 13, .inr (.inl n_f8))), (bn 9, .inl (cJ, 13, .inr (.inl n_f9))), (b 7, oX3 z0 u.1 u.2.1 u.2.2)]) 0 0 := by
  refine CI.go (cc := cX9_corners) (maxL := 3) (ret := (some .int)) (by decide) rfl (Nat.le_of_ble_eq_true rfl) ?_
  intro p e s m below meth c A ls Q hBd hret
  obtain ⟨hx, hb, hr, hml, hts, hown, hlk, hnm, hP, hK, hD, hA, hZ, hl⟩ := hBd
  have hown : s.vm.findClass RX9 = some m.cls := hown
  have hl : lv_has ls 3 [(0, .ref h0), (1, .int p0), (2, .int p1)] := hl
  have hS : va_S A s.heap s.heap [] := va_S.rf
  refine lv_iload_n hx hb dX9_corners_0 rfl (lv_at hl 1 rfl) ?_
  refine lv_if_lt (tgt := 20) hx hb dX9_corners_1 (by decide) (fun c1 => ?_) (fun c1 => ?_)
  · have c1 := i_lt rfl ki_0 c1
    refine lv_bipush (v := (-2)) hx hb dX9_corners_20 (by decide) ?_
    exact hret _ _ _ _ (-2) (k_cells, k_across, k_down) hP hD hS dX9_corners_22 trivial
  · have c1 := i_nlt rfl ki_0 c1
    refine lv_iload_n hx hb dX9_corners_4 rfl (lv_at hl 1 rfl) ?_
    refine lv_iconst (v := 4) hx hb dX9_corners_5 (by decide) ?_
    refine lv_icmp_gt (tgt := 20) hx hb dX9_corners_6 (by decide) (fun c2 => ?_) (fun c2 => ?_)
    · have c2 := i_lt ki_4 rfl c2
      refine lv_bipush (v := (-2)) hx hb dX9_corners_20 (by decide) ?_
      exact hret _ _ _ _ (-2) (k_cells, k_across, k_down) hP hD hS dX9_corners_22 trivial
    · have c2 := i_nlt ki_4 rfl c2
      refine lv_aload_n hx hb dX9_corners_9 rfl (lv_at hl 0 rfl) ?_
      refine va_get (D := G) (ci := 9) (v := .ref (b 1)) (C := RX9) (T := TX9) (N := 11) hx hb hts iG_X9 hown hK hP 0 rfl rfl 1 (by decide) (hts _ w_352) (fun _ h9 => h9) rfl dX9_corners_10 ?_
      refine lv_iload_n hx hb dX9_corners_13 rfl (lv_at hl 2 rfl) ?_
      refine k_i (wc := [(b 1, oX0 bt t_lines t_span t_rule t_odds t_wide t_high t_creeks t_houses t_widows t_acts)]) (wr := [(h0, oX9 b), (b 4, oX6 bn n_field n_houses), (bn 7, .inl (cJ, 13, .inr (.inl n_f7))), (bn 8, .inl (cJ, 13, .inr (.inl n_f8))), (bn 9, .inl (cJ, 13, .inr (.inl n_f9))), (b 7, oX3 z0 k_cells k_across k_down)]) hP hD hS hA [1] [0, 2, 3, 4, 5, 6] rfl rfl rfl (by decide) (va_runVN (As := [.int p1]) (rest := []) ⟨hx, hb, hml, hown, hts⟩ (f_X0_hasYear l G cI cJ cZ cB cQ _ (b 1) p1 p1.toInt bt t_lines t_span t_rule t_odds t_wide t_high t_creeks t_houses t_widows t_acts rfl hl_t_span hh_t_span hl_t_rule hh_t_rule hl_t_odds hh_t_odds hl_t_wide hh_t_wide hl_t_high hh_t_high hl_t_creeks hh_t_creeks hl_t_houses hh_t_houses hl_t_widows hh_t_widows hl_t_acts hh_t_acts) ⟨va_cnB (host := "WidowRoads") 1 hts (gW w_727) rfl rfl rfl (nz_nw hZ nw_724 rfl) (hts _ w_4) hd_X0_hasYear ⟨Nat.le_of_ble_eq_true rfl, Nat.le_of_ble_eq_true rfl⟩, (hts _ w_726), (hts _ wp_39)⟩ (mV hK hZ hP hD [1] rfl rfl [.int p1] 1 0 rfl rfl) rfl rfl hl.1 rfl (lv_room (Nat.le_of_ble_eq_true rfl)) dX9_corners_14 ⟨Nat.le_of_ble_eq_true rfl, Nat.le_of_ble_eq_true rfl⟩) (fun r3 u4 H locs hw5 hP hD hS => ?_)
      try dsimp only at hw5
      have hP : va_P G vwCl [(h0, oX9 b), (b 4, oX6 bn n_field n_houses), (bn 7, .inl (cJ, 13, .inr (.inl n_f7))), (bn 8, .inl (cJ, 13, .inr (.inl n_f8))), (bn 9, .inl (cJ, 13, .inr (.inl n_f9))), (b 7, oX3 z0 k_cells k_across k_down), (b 1, oX0 bt t_lines t_span t_rule t_odds t_wide t_high t_creeks t_houses t_widows t_acts)] H := hP
      have hD : va_D A [(h0, oX9 b), (b 4, oX6 bn n_field n_houses), (bn 7, .inl (cJ, 13, .inr (.inl n_f7))), (bn 8, .inl (cJ, 13, .inr (.inl n_f8))), (bn 9, .inl (cJ, 13, .inr (.inl n_f9))), (b 7, oX3 z0 k_cells k_across k_down), (b 1, oX0 bt t_lines t_span t_rule t_odds t_wide t_high t_creeks t_houses t_widows t_acts)] := hD
      rcases hw5 with ⟨rfl, a7, a8⟩ | rfl
      · skip
        refine lv_if_ne (tgt := 23) hx hb dX9_corners_17 (by decide) (fun c9 => ?_) (fun c9 => absurd c9 (by decide))
        refine lv_aload_n hx hb dX9_corners_23 rfl (lv_at hl 0 rfl) ?_
        refine va_get (D := G) (ci := 9) (v := .ref (b 7)) (C := RX9) (T := TX9) (N := 11) hx hb hts iG_X9 hown hK hP 0 rfl rfl 7 (by decide) (hts _ w_358) (fun _ h9 => h9) rfl dX9_corners_24 ?_
        refine lv_aload_n hx hb dX9_corners_27 rfl (lv_at hl 0 rfl) ?_
        refine va_get (D := G) (ci := 9) (v := .ref (b 4)) (C := RX9) (T := TX9) (N := 11) hx hb hts iG_X9 hown hK hP 0 rfl rfl 4 (by decide) (hts _ w_355) (fun _ h9 => h9) rfl dX9_corners_28 ?_
        refine lv_iload_n hx hb dX9_corners_31 rfl (lv_at hl 2 rfl) ?_
        refine k_v (wc := [(b 7, oX3 z0 k_cells k_across k_down), (b 4, oX6 bn n_field n_houses), (bn 7, .inl (cJ, 13, .inr (.inl n_f7))), (bn 8, .inl (cJ, 13, .inr (.inl n_f8))), (bn 9, .inl (cJ, 13, .inr (.inl n_f9)))]) (wr := [(h0, oX9 b), (b 1, oX0 bt t_lines t_span t_rule t_odds t_wide t_high t_creeks t_houses t_widows t_acts)]) hP hD hS hA [5, 1, 2, 3, 4] [0, 6] rfl rfl rfl (by decide) (va_runVN (As := [.ref (b 4), .int p1]) (rest := []) ⟨hx, hb, hml, hown, hts⟩ (f_X3_lay l G cI cJ cZ cB cQ _ (b 7) (b 4) p1 k_cells k_across k_down bn n_field n_houses n_f7 n_f8 n_f9 (by omega) (by omega) hl_n_houses hh_n_houses) ⟨va_cnB (host := "WidowRoads") 2 hts (gW w_781) rfl rfl rfl (nz_nw hZ nw_778 rfl) (hts _ w_8) hd_X3_lay ⟨Nat.le_of_ble_eq_true rfl, Nat.le_of_ble_eq_true rfl⟩, (hts _ w_780), (hts _ wp_45)⟩ (mV hK hZ hP hD [5, 1, 2, 3, 4] rfl rfl [.ref (b 4), .int p1] 5 3 rfl rfl) rfl rfl hl.1 rfl (lv_room (Nat.le_of_ble_eq_true rfl)) dX9_corners_32 ⟨Nat.le_of_ble_eq_true rfl, Nat.le_of_ble_eq_true rfl⟩) (fun u11 H locs hw12 hP hD hS => ?_)
        obtain ⟨o_cellso13, o_acrosso14, o_downo15⟩ := u11
        try dsimp only at hw12
        have hP : va_P G vwCl [(h0, oX9 b), (b 1, oX0 bt t_lines t_span t_rule t_odds t_wide t_high t_creeks t_houses t_widows t_acts), (b 7, oX3 z0 o_cellso13 o_acrosso14 o_downo15), (b 4, oX6 bn n_field n_houses), (bn 7, .inl (cJ, 13, .inr (.inl n_f7))), (bn 8, .inl (cJ, 13, .inr (.inl n_f8))), (bn 9, .inl (cJ, 13, .inr (.inl n_f9)))] H := hP
        have hD : va_D A [(h0, oX9 b), (b 1, oX0 bt t_lines t_span t_rule t_odds t_wide t_high t_creeks t_houses t_widows t_acts), (b 7, oX3 z0 o_cellso13 o_acrosso14 o_downo15), (b 4, oX6 bn n_field n_houses), (bn 7, .inl (cJ, 13, .inr (.inl n_f7))), (bn 8, .inl (cJ, 13, .inr (.inl n_f8))), (bn 9, .inl (cJ, 13, .inr (.inl n_f9)))] := hD
        refine lv_aload_n hx hb dX9_corners_35 rfl (lv_at hl 0 rfl) ?_
        refine va_get (D := G) (ci := 9) (v := .ref (b 7)) (C := RX9) (T := TX9) (N := 11) hx hb hts iG_X9 hown hK hP 0 rfl rfl 7 (by decide) (hts _ w_358) (fun _ h9 => h9) rfl dX9_corners_36 ?_
        refine lv_iload_n hx hb dX9_corners_39 rfl (lv_at hl 1 rfl) ?_
        refine k_i (wc := [(b 7, oX3 z0 o_cellso13 o_acrosso14 o_downo15)]) (wr := [(h0, oX9 b), (b 1, oX0 bt t_lines t_span t_rule t_odds t_wide t_high t_creeks t_houses t_widows t_acts), (b 4, oX6 bn n_field n_houses), (bn 7, .inl (cJ, 13, .inr (.inl n_f7))), (bn 8, .inl (cJ, 13, .inr (.inl n_f8))), (bn 9, .inl (cJ, 13, .inr (.inl n_f9)))]) hP hD hS hA [2] [0, 1, 3, 4, 5, 6] rfl rfl rfl (by decide) (va_runVN (As := [.int p0]) (rest := []) ⟨hx, hb, hml, hown, hts⟩ (f_X3_cellsJoinedBy l G cI cJ cZ cB cQ _ (b 7) p0 o_cellso13 o_acrosso14 o_downo15) ⟨va_cnB (host := "WidowRoads") 1 hts (gW w_795) rfl rfl rfl (nz_nw hZ nw_792 rfl) (hts _ w_8) hd_X3_cellsJoinedBy ⟨Nat.le_of_ble_eq_true rfl, Nat.le_of_ble_eq_true rfl⟩, (hts _ w_794), (hts _ wp_47)⟩ (mV hK hZ hP hD [2] rfl rfl [.int p0] 2 3 rfl rfl) rfl rfl hl.1 rfl (lv_room (Nat.le_of_ble_eq_true rfl)) dX9_corners_40 ⟨Nat.le_of_ble_eq_true rfl, Nat.le_of_ble_eq_true rfl⟩) (fun r16 u17 H locs hw18 hP hD hS => ?_)
        try dsimp only at hw18
        have hP : va_P G vwCl [(h0, oX9 b), (b 1, oX0 bt t_lines t_span t_rule t_odds t_wide t_high t_creeks t_houses t_widows t_acts), (b 4, oX6 bn n_field n_houses), (bn 7, .inl (cJ, 13, .inr (.inl n_f7))), (bn 8, .inl (cJ, 13, .inr (.inl n_f8))), (bn 9, .inl (cJ, 13, .inr (.inl n_f9))), (b 7, oX3 z0 o_cellso13 o_acrosso14 o_downo15)] H := hP
        have hD : va_D A [(h0, oX9 b), (b 1, oX0 bt t_lines t_span t_rule t_odds t_wide t_high t_creeks t_houses t_widows t_acts), (b 4, oX6 bn n_field n_houses), (bn 7, .inl (cJ, 13, .inr (.inl n_f7))), (bn 8, .inl (cJ, 13, .inr (.inl n_f8))), (bn 9, .inl (cJ, 13, .inr (.inl n_f9))), (b 7, oX3 z0 o_cellso13 o_acrosso14 o_downo15)] := hD
        exact hret _ _ _ _ r16 (o_cellso13, o_acrosso14, o_downo15) hP hD hS dX9_corners_43 trivial
      · skip
        refine lv_if_ne (tgt := 23) hx hb dX9_corners_17 (by decide) (fun c19 => absurd (by decide) c19) (fun c19 => ?_)
        refine lv_bipush (v := (-2)) hx hb dX9_corners_20 (by decide) ?_
        exact hret _ _ _ _ (-2) (k_cells, k_across, k_down) (hP.sub (ws' := [(h0, oX9 b), (b 1, oX0 bt t_lines t_span t_rule t_odds t_wide t_high t_creeks t_houses t_widows t_acts), (b 4, oX6 bn n_field n_houses), (bn 7, .inl (cJ, 13, .inr (.inl n_f7))), (bn 8, .inl (cJ, 13, .inr (.inl n_f8))), (bn 9, .inl (cJ, 13, .inr (.inl n_f9))), (b 7, oX3 z0 k_cells k_across k_down)]) [0, 6, 1, 2, 3, 4, 5] rfl) (hD.sub (ws' := [(h0, oX9 b), (b 1, oX0 bt t_lines t_span t_rule t_odds t_wide t_high t_creeks t_houses t_widows t_acts), (b 4, oX6 bn n_field n_houses), (bn 7, .inl (cJ, 13, .inr (.inl n_f7))), (bn 8, .inl (cJ, 13, .inr (.inl n_f8))), (bn 9, .inl (cJ, 13, .inr (.inl n_f9))), (b 7, oX3 z0 k_cells k_across k_down)]) [0, 6, 1, 2, 3, 4, 5] rfl rfl) hS dX9_corners_22 trivial
set_option maxHeartbeats 4000000 in
set_option maxRecDepth 100000 in
theorem f_X9_nets (l : Launch) (G : va_G) (cI cJ cZ cB cQ : ClassId) (sz : Nat) (h0 : Nat) (p0 : Int32) (b : Nat → Nat) (bt : Nat → Nat) (t_lines : Int32) (t_span : Int32) (t_rule : Int32) (t_odds : Int32) (t_wide : Int32) (t_high : Int32) (t_creeks : Int32) (t_houses : Int32) (t_widows : Int32) (t_acts : Int32) (bn : Nat → Nat) (n_field : Int64) (n_houses : Int32) (n_f7 : Nat → Int64) (n_f8 : Nat → Int64) (n_f9 : Nat → Int64) (k_cells : Int64) (k_across : Int64) (k_down : Int64) (hl_t_span : 0 ≤ t_span.toInt) (hh_t_span : t_span.toInt ≤ 12) (hl_t_rule : 0 ≤ t_rule.toInt) (hh_t_rule : t_rule.toInt ≤ 3) (hl_t_odds : 0 ≤ t_odds.toInt) (hh_t_odds : t_odds.toInt ≤ 10) (hl_t_wide : 0 ≤ t_wide.toInt) (hh_t_wide : t_wide.toInt ≤ 8) (hl_t_high : 0 ≤ t_high.toInt) (hh_t_high : t_high.toInt ≤ 8) (hl_t_creeks : 0 ≤ t_creeks.toInt) (hh_t_creeks : t_creeks.toInt ≤ 12) (hl_t_houses : 0 ≤ t_houses.toInt) (hh_t_houses : t_houses.toInt ≤ 6) (hl_t_widows : 0 ≤ t_widows.toInt) (hh_t_widows : t_widows.toInt ≤ 7) (hl_t_acts : 0 ≤ t_acts.toInt) (hh_t_acts : t_acts.toInt ≤ 30) (hl_n_houses : 0 ≤ n_houses.toInt) (hh_n_houses : n_houses.toInt ≤ 6) : CI l yX9_nets (wl_ yX9_nets cX9_nets 2 (some .int)) ({ frames := 3, cells := 0, slots := 0, locals := 80 } : Room) G (TY cI cJ cZ cB cQ) [.ref h0, .int p0] [(h0, oX9 b), (b 1, oX0 bt t_lines t_span t_rule t_odds t_wide t_high t_creeks t_houses t_widows t_acts), (b 4, oX6 bn n_field n_houses), (bn 7, .inl (cJ, 13, .inr (.inl n_f7))), (bn 8, .inl (cJ, 13, .inr (.inl n_f8))), (bn 9, .inl (cJ, 13, .inr (.inl n_f9))), (b 7, oX3 z0 k_cells k_across k_down)] sz (fun (r : Int32) (u : Int64 × Int64 × Int64) => True) (fun u : Int64 × Int64 × Int64 => [(h0, oX9 b), (b 1, oX0 bt t_lines t_span t_rule t_odds t_wide t_high t_creeks t_houses t_widows t_acts), (b 4, oX6 bn n_field n_houses), (bn 7, .inl (cJ, 13, .inr (.inl n_f7))), (bn 8, .inl (cJ, 13, .inr (.inl n_f8))), (bn 9, .inl (cJ, 13, .inr (.inl n_f9))), (b 7, oX3 z0 u.1 u.2.1 u.2.2)]) 0 0 := by
  refine CI.go (cc := cX9_nets) (maxL := 2) (ret := (some .int)) (by decide) rfl (Nat.le_of_ble_eq_true rfl) ?_
  intro p e s m below meth c A ls Q hBd hret
  obtain ⟨hx, hb, hr, hml, hts, hown, hlk, hnm, hP, hK, hD, hA, hZ, hl⟩ := hBd
  have hown : s.vm.findClass RX9 = some m.cls := hown
  have hl : lv_has ls 2 [(0, .ref h0), (1, .int p0)] := hl
  have hS : va_S A s.heap s.heap [] := va_S.rf
  refine lv_aload_n hx hb dX9_nets_0 rfl (lv_at hl 0 rfl) ?_
  refine va_get (D := G) (ci := 9) (v := .ref (b 1)) (C := RX9) (T := TX9) (N := 11) hx hb hts iG_X9 hown hK hP 0 rfl rfl 1 (by decide) (hts _ w_352) (fun _ h9 => h9) rfl dX9_nets_1 ?_
  refine lv_iload_n hx hb dX9_nets_4 rfl (lv_at hl 1 rfl) ?_
  refine k_i (wc := [(b 1, oX0 bt t_lines t_span t_rule t_odds t_wide t_high t_creeks t_houses t_widows t_acts)]) (wr := [(h0, oX9 b), (b 4, oX6 bn n_field n_houses), (bn 7, .inl (cJ, 13, .inr (.inl n_f7))), (bn 8, .inl (cJ, 13, .inr (.inl n_f8))), (bn 9, .inl (cJ, 13, .inr (.inl n_f9))), (b 7, oX3 z0 k_cells k_across k_down)]) hP hD hS hA [1] [0, 2, 3, 4, 5, 6] rfl rfl rfl (by decide) (va_runVN (As := [.int p0]) (rest := []) ⟨hx, hb, hml, hown, hts⟩ (f_X0_hasYear l G cI cJ cZ cB cQ _ (b 1) p0 p0.toInt bt t_lines t_span t_rule t_odds t_wide t_high t_creeks t_houses t_widows t_acts rfl hl_t_span hh_t_span hl_t_rule hh_t_rule hl_t_odds hh_t_odds hl_t_wide hh_t_wide hl_t_high hh_t_high hl_t_creeks hh_t_creeks hl_t_houses hh_t_houses hl_t_widows hh_t_widows hl_t_acts hh_t_acts) ⟨va_cnB (host := "WidowRoads") 1 hts (gW w_727) rfl rfl rfl (nz_nw hZ nw_724 rfl) (hts _ w_4) hd_X0_hasYear ⟨Nat.le_of_ble_eq_true rfl, Nat.le_of_ble_eq_true rfl⟩, (hts _ w_726), (hts _ wp_39)⟩ (mV hK hZ hP hD [1] rfl rfl [.int p0] 1 0 rfl rfl) rfl rfl hl.1 rfl (lv_room (Nat.le_of_ble_eq_true rfl)) dX9_nets_5 ⟨Nat.le_of_ble_eq_true rfl, Nat.le_of_ble_eq_true rfl⟩) (fun r1 u2 H locs hw3 hP hD hS => ?_)
  try dsimp only at hw3
  have hP : va_P G vwCl [(h0, oX9 b), (b 4, oX6 bn n_field n_houses), (bn 7, .inl (cJ, 13, .inr (.inl n_f7))), (bn 8, .inl (cJ, 13, .inr (.inl n_f8))), (bn 9, .inl (cJ, 13, .inr (.inl n_f9))), (b 7, oX3 z0 k_cells k_across k_down), (b 1, oX0 bt t_lines t_span t_rule t_odds t_wide t_high t_creeks t_houses t_widows t_acts)] H := hP
  have hD : va_D A [(h0, oX9 b), (b 4, oX6 bn n_field n_houses), (bn 7, .inl (cJ, 13, .inr (.inl n_f7))), (bn 8, .inl (cJ, 13, .inr (.inl n_f8))), (bn 9, .inl (cJ, 13, .inr (.inl n_f9))), (b 7, oX3 z0 k_cells k_across k_down), (b 1, oX0 bt t_lines t_span t_rule t_odds t_wide t_high t_creeks t_houses t_widows t_acts)] := hD
  rcases hw3 with ⟨rfl, a5, a6⟩ | rfl
  · skip
    refine lv_if_ne (tgt := 14) hx hb dX9_nets_8 (by decide) (fun c7 => ?_) (fun c7 => absurd c7 (by decide))
    refine lv_aload_n hx hb dX9_nets_14 rfl (lv_at hl 0 rfl) ?_
    refine va_get (D := G) (ci := 9) (v := .ref (b 7)) (C := RX9) (T := TX9) (N := 11) hx hb hts iG_X9 hown hK hP 0 rfl rfl 7 (by decide) (hts _ w_358) (fun _ h9 => h9) rfl dX9_nets_15 ?_
    refine lv_aload_n hx hb dX9_nets_18 rfl (lv_at hl 0 rfl) ?_
    refine va_get (D := G) (ci := 9) (v := .ref (b 4)) (C := RX9) (T := TX9) (N := 11) hx hb hts iG_X9 hown hK hP 0 rfl rfl 4 (by decide) (hts _ w_355) (fun _ h9 => h9) rfl dX9_nets_19 ?_
    refine lv_iload_n hx hb dX9_nets_22 rfl (lv_at hl 1 rfl) ?_
    refine k_v (wc := [(b 7, oX3 z0 k_cells k_across k_down), (b 4, oX6 bn n_field n_houses), (bn 7, .inl (cJ, 13, .inr (.inl n_f7))), (bn 8, .inl (cJ, 13, .inr (.inl n_f8))), (bn 9, .inl (cJ, 13, .inr (.inl n_f9)))]) (wr := [(h0, oX9 b), (b 1, oX0 bt t_lines t_span t_rule t_odds t_wide t_high t_creeks t_houses t_widows t_acts)]) hP hD hS hA [5, 1, 2, 3, 4] [0, 6] rfl rfl rfl (by decide) (va_runVN (As := [.ref (b 4), .int p0]) (rest := []) ⟨hx, hb, hml, hown, hts⟩ (f_X3_lay l G cI cJ cZ cB cQ _ (b 7) (b 4) p0 k_cells k_across k_down bn n_field n_houses n_f7 n_f8 n_f9 (by omega) (by omega) hl_n_houses hh_n_houses) ⟨va_cnB (host := "WidowRoads") 2 hts (gW w_781) rfl rfl rfl (nz_nw hZ nw_778 rfl) (hts _ w_8) hd_X3_lay ⟨Nat.le_of_ble_eq_true rfl, Nat.le_of_ble_eq_true rfl⟩, (hts _ w_780), (hts _ wp_45)⟩ (mV hK hZ hP hD [5, 1, 2, 3, 4] rfl rfl [.ref (b 4), .int p0] 5 3 rfl rfl) rfl rfl hl.1 rfl (lv_room (Nat.le_of_ble_eq_true rfl)) dX9_nets_23 ⟨Nat.le_of_ble_eq_true rfl, Nat.le_of_ble_eq_true rfl⟩) (fun u9 H locs hw10 hP hD hS => ?_)
    obtain ⟨o_cellso11, o_acrosso12, o_downo13⟩ := u9
    try dsimp only at hw10
    have hP : va_P G vwCl [(h0, oX9 b), (b 1, oX0 bt t_lines t_span t_rule t_odds t_wide t_high t_creeks t_houses t_widows t_acts), (b 7, oX3 z0 o_cellso11 o_acrosso12 o_downo13), (b 4, oX6 bn n_field n_houses), (bn 7, .inl (cJ, 13, .inr (.inl n_f7))), (bn 8, .inl (cJ, 13, .inr (.inl n_f8))), (bn 9, .inl (cJ, 13, .inr (.inl n_f9)))] H := hP
    have hD : va_D A [(h0, oX9 b), (b 1, oX0 bt t_lines t_span t_rule t_odds t_wide t_high t_creeks t_houses t_widows t_acts), (b 7, oX3 z0 o_cellso11 o_acrosso12 o_downo13), (b 4, oX6 bn n_field n_houses), (bn 7, .inl (cJ, 13, .inr (.inl n_f7))), (bn 8, .inl (cJ, 13, .inr (.inl n_f8))), (bn 9, .inl (cJ, 13, .inr (.inl n_f9)))] := hD
    refine lv_aload_n hx hb dX9_nets_26 rfl (lv_at hl 0 rfl) ?_
    refine va_get (D := G) (ci := 9) (v := .ref (b 7)) (C := RX9) (T := TX9) (N := 11) hx hb hts iG_X9 hown hK hP 0 rfl rfl 7 (by decide) (hts _ w_358) (fun _ h9 => h9) rfl dX9_nets_27 ?_
    refine k_i (wc := [(b 7, oX3 z0 o_cellso11 o_acrosso12 o_downo13)]) (wr := [(h0, oX9 b), (b 1, oX0 bt t_lines t_span t_rule t_odds t_wide t_high t_creeks t_houses t_widows t_acts), (b 4, oX6 bn n_field n_houses), (bn 7, .inl (cJ, 13, .inr (.inl n_f7))), (bn 8, .inl (cJ, 13, .inr (.inl n_f8))), (bn 9, .inl (cJ, 13, .inr (.inl n_f9)))]) hP hD hS hA [2] [0, 1, 3, 4, 5, 6] rfl rfl rfl (by decide) (va_runVN (As := []) (rest := []) ⟨hx, hb, hml, hown, hts⟩ (f_X3_parts l G cI cJ cZ cB cQ _ (b 7) o_cellso11 o_acrosso12 o_downo13) ⟨va_cnB (host := "WidowRoads") 0 hts (gW w_810) rfl rfl rfl (nz_nw hZ nw_807 rfl) (hts _ w_8) hd_X3_parts ⟨Nat.le_of_ble_eq_true rfl, Nat.le_of_ble_eq_true rfl⟩, (hts _ w_809), (hts _ wp_48)⟩ (mV hK hZ hP hD [2] rfl rfl [] 2 3 rfl rfl) rfl rfl hl.1 rfl (lv_room (Nat.le_of_ble_eq_true rfl)) dX9_nets_30 ⟨Nat.le_of_ble_eq_true rfl, Nat.le_of_ble_eq_true rfl⟩) (fun r14 u15 H locs hw16 hP hD hS => ?_)
    try dsimp only at hw16
    have hP : va_P G vwCl [(h0, oX9 b), (b 1, oX0 bt t_lines t_span t_rule t_odds t_wide t_high t_creeks t_houses t_widows t_acts), (b 4, oX6 bn n_field n_houses), (bn 7, .inl (cJ, 13, .inr (.inl n_f7))), (bn 8, .inl (cJ, 13, .inr (.inl n_f8))), (bn 9, .inl (cJ, 13, .inr (.inl n_f9))), (b 7, oX3 z0 o_cellso11 o_acrosso12 o_downo13)] H := hP
    have hD : va_D A [(h0, oX9 b), (b 1, oX0 bt t_lines t_span t_rule t_odds t_wide t_high t_creeks t_houses t_widows t_acts), (b 4, oX6 bn n_field n_houses), (bn 7, .inl (cJ, 13, .inr (.inl n_f7))), (bn 8, .inl (cJ, 13, .inr (.inl n_f8))), (bn 9, .inl (cJ, 13, .inr (.inl n_f9))), (b 7, oX3 z0 o_cellso11 o_acrosso12 o_downo13)] := hD
    exact hret _ _ _ _ r14 (o_cellso11, o_acrosso12, o_downo13) hP hD hS dX9_nets_33 trivial
  · skip
    refine lv_if_ne (tgt := 14) hx hb dX9_nets_8 (by decide) (fun c17 => absurd (by decide) c17) (fun c17 => ?_)
    refine lv_bipush (v := (-2)) hx hb dX9_nets_11 (by decide) ?_
    exact hret _ _ _ _ (-2) (k_cells, k_across, k_down) (hP.sub (ws' := [(h0, oX9 b), (b 1, oX0 bt t_lines t_span t_rule t_odds t_wide t_high t_creeks t_houses t_widows t_acts), (b 4, oX6 bn n_field n_houses), (bn 7, .inl (cJ, 13, .inr (.inl n_f7))), (bn 8, .inl (cJ, 13, .inr (.inl n_f8))), (bn 9, .inl (cJ, 13, .inr (.inl n_f9))), (b 7, oX3 z0 k_cells k_across k_down)]) [0, 6, 1, 2, 3, 4, 5] rfl) (hD.sub (ws' := [(h0, oX9 b), (b 1, oX0 bt t_lines t_span t_rule t_odds t_wide t_high t_creeks t_houses t_widows t_acts), (b 4, oX6 bn n_field n_houses), (bn 7, .inl (cJ, 13, .inr (.inl n_f7))), (bn 8, .inl (cJ, 13, .inr (.inl n_f8))), (bn 9, .inl (cJ, 13, .inr (.inl n_f9))), (b 7, oX3 z0 k_cells k_across k_down)]) [0, 6, 1, 2, 3, 4, 5] rfl rfl) hS dX9_nets_13 trivial
set_option maxHeartbeats 4000000 in
set_option maxRecDepth 100000 in
theorem f_X9_missing (l : Launch) (G : va_G) (cI cJ cZ cB cQ : ClassId) (sz : Nat) (h0 : Nat) (p0 : Int32) (b : Nat → Nat) (bt : Nat → Nat) (t_lines : Int32) (t_span : Int32) (t_rule : Int32) (t_odds : Int32) (t_wide : Int32) (t_high : Int32) (t_creeks : Int32) (t_houses : Int32) (t_widows : Int32) (t_acts : Int32) (bn : Nat → Nat) (n_field : Int64) (n_houses : Int32) (n_f7 : Nat → Int64) (n_f8 : Nat → Int64) (n_f9 : Nat → Int64) (k_cells : Int64) (k_across : Int64) (k_down : Int64) (hl_t_span : 0 ≤ t_span.toInt) (hh_t_span : t_span.toInt ≤ 12) (hl_t_rule : 0 ≤ t_rule.toInt) (hh_t_rule : t_rule.toInt ≤ 3) (hl_t_odds : 0 ≤ t_odds.toInt) (hh_t_odds : t_odds.toInt ≤ 10) (hl_t_wide : 0 ≤ t_wide.toInt) (hh_t_wide : t_wide.toInt ≤ 8) (hl_t_high : 0 ≤ t_high.toInt) (hh_t_high : t_high.toInt ≤ 8) (hl_t_creeks : 0 ≤ t_creeks.toInt) (hh_t_creeks : t_creeks.toInt ≤ 12) (hl_t_houses : 0 ≤ t_houses.toInt) (hh_t_houses : t_houses.toInt ≤ 6) (hl_t_widows : 0 ≤ t_widows.toInt) (hh_t_widows : t_widows.toInt ≤ 7) (hl_t_acts : 0 ≤ t_acts.toInt) (hh_t_acts : t_acts.toInt ≤ 30) (hl_n_houses : 0 ≤ n_houses.toInt) (hh_n_houses : n_houses.toInt ≤ 6) : CI l yX9_missing (wl_ yX9_missing cX9_missing 3 (some .int)) ({ frames := 3, cells := 0, slots := 0, locals := 80 } : Room) G (TY cI cJ cZ cB cQ) [.ref h0, .int p0] [(h0, oX9 b), (b 1, oX0 bt t_lines t_span t_rule t_odds t_wide t_high t_creeks t_houses t_widows t_acts), (b 4, oX6 bn n_field n_houses), (bn 7, .inl (cJ, 13, .inr (.inl n_f7))), (bn 8, .inl (cJ, 13, .inr (.inl n_f8))), (bn 9, .inl (cJ, 13, .inr (.inl n_f9))), (b 7, oX3 z0 k_cells k_across k_down)] sz (fun (r : Int32) (u : Int64 × Int64 × Int64) => True) (fun u : Int64 × Int64 × Int64 => [(h0, oX9 b), (b 1, oX0 bt t_lines t_span t_rule t_odds t_wide t_high t_creeks t_houses t_widows t_acts), (b 4, oX6 bn n_field n_houses), (bn 7, .inl (cJ, 13, .inr (.inl n_f7))), (bn 8, .inl (cJ, 13, .inr (.inl n_f8))), (bn 9, .inl (cJ, 13, .inr (.inl n_f9))), (b 7, oX3 z0 u.1 u.2.1 u.2.2)]) 0 0 := by
  refine CI.go (cc := cX9_missing) (maxL := 3) (ret := (some .int)) (by decide) rfl (Nat.le_of_ble_eq_true rfl) ?_
  intro p e s m below meth c A ls Q hBd hret
  obtain ⟨hx, hb, hr, hml, hts, hown, hlk, hnm, hP, hK, hD, hA, hZ, hl⟩ := hBd
  have hown : s.vm.findClass RX9 = some m.cls := hown
  have hl : lv_has ls 3 [(0, .ref h0), (1, .int p0)] := hl
  have hS : va_S A s.heap s.heap [] := va_S.rf
  refine lv_aload_n hx hb dX9_missing_0 rfl (lv_at hl 0 rfl) ?_
  refine va_get (D := G) (ci := 9) (v := .ref (b 1)) (C := RX9) (T := TX9) (N := 11) hx hb hts iG_X9 hown hK hP 0 rfl rfl 1 (by decide) (hts _ w_352) (fun _ h9 => h9) rfl dX9_missing_1 ?_
  refine lv_iload_n hx hb dX9_missing_4 rfl (lv_at hl 1 rfl) ?_
  refine k_i (wc := [(b 1, oX0 bt t_lines t_span t_rule t_odds t_wide t_high t_creeks t_houses t_widows t_acts)]) (wr := [(h0, oX9 b), (b 4, oX6 bn n_field n_houses), (bn 7, .inl (cJ, 13, .inr (.inl n_f7))), (bn 8, .inl (cJ, 13, .inr (.inl n_f8))), (bn 9, .inl (cJ, 13, .inr (.inl n_f9))), (b 7, oX3 z0 k_cells k_across k_down)]) hP hD hS hA [1] [0, 2, 3, 4, 5, 6] rfl rfl rfl (by decide) (va_runVN (As := [.int p0]) (rest := []) ⟨hx, hb, hml, hown, hts⟩ (f_X0_hasYear l G cI cJ cZ cB cQ _ (b 1) p0 p0.toInt bt t_lines t_span t_rule t_odds t_wide t_high t_creeks t_houses t_widows t_acts rfl hl_t_span hh_t_span hl_t_rule hh_t_rule hl_t_odds hh_t_odds hl_t_wide hh_t_wide hl_t_high hh_t_high hl_t_creeks hh_t_creeks hl_t_houses hh_t_houses hl_t_widows hh_t_widows hl_t_acts hh_t_acts) ⟨va_cnB (host := "WidowRoads") 1 hts (gW w_727) rfl rfl rfl (nz_nw hZ nw_724 rfl) (hts _ w_4) hd_X0_hasYear ⟨Nat.le_of_ble_eq_true rfl, Nat.le_of_ble_eq_true rfl⟩, (hts _ w_726), (hts _ wp_39)⟩ (mV hK hZ hP hD [1] rfl rfl [.int p0] 1 0 rfl rfl) rfl rfl hl.1 rfl (lv_room (Nat.le_of_ble_eq_true rfl)) dX9_missing_5 ⟨Nat.le_of_ble_eq_true rfl, Nat.le_of_ble_eq_true rfl⟩) (fun r1 u2 H locs hw3 hP hD hS => ?_)
  try dsimp only at hw3
  have hP : va_P G vwCl [(h0, oX9 b), (b 4, oX6 bn n_field n_houses), (bn 7, .inl (cJ, 13, .inr (.inl n_f7))), (bn 8, .inl (cJ, 13, .inr (.inl n_f8))), (bn 9, .inl (cJ, 13, .inr (.inl n_f9))), (b 7, oX3 z0 k_cells k_across k_down), (b 1, oX0 bt t_lines t_span t_rule t_odds t_wide t_high t_creeks t_houses t_widows t_acts)] H := hP
  have hD : va_D A [(h0, oX9 b), (b 4, oX6 bn n_field n_houses), (bn 7, .inl (cJ, 13, .inr (.inl n_f7))), (bn 8, .inl (cJ, 13, .inr (.inl n_f8))), (bn 9, .inl (cJ, 13, .inr (.inl n_f9))), (b 7, oX3 z0 k_cells k_across k_down), (b 1, oX0 bt t_lines t_span t_rule t_odds t_wide t_high t_creeks t_houses t_widows t_acts)] := hD
  rcases hw3 with ⟨rfl, a5, a6⟩ | rfl
  · skip
    refine lv_if_ne (tgt := 14) hx hb dX9_missing_8 (by decide) (fun c7 => ?_) (fun c7 => absurd c7 (by decide))
    refine lv_aload_n hx hb dX9_missing_14 rfl (lv_at hl 0 rfl) ?_
    refine va_get (D := G) (ci := 9) (v := .ref (b 7)) (C := RX9) (T := TX9) (N := 11) hx hb hts iG_X9 hown hK hP 0 rfl rfl 7 (by decide) (hts _ w_358) (fun _ h9 => h9) rfl dX9_missing_15 ?_
    refine lv_aload_n hx hb dX9_missing_18 rfl (lv_at hl 0 rfl) ?_
    refine va_get (D := G) (ci := 9) (v := .ref (b 4)) (C := RX9) (T := TX9) (N := 11) hx hb hts iG_X9 hown hK hP 0 rfl rfl 4 (by decide) (hts _ w_355) (fun _ h9 => h9) rfl dX9_missing_19 ?_
    refine lv_iload_n hx hb dX9_missing_22 rfl (lv_at hl 1 rfl) ?_
    refine k_v (wc := [(b 7, oX3 z0 k_cells k_across k_down), (b 4, oX6 bn n_field n_houses), (bn 7, .inl (cJ, 13, .inr (.inl n_f7))), (bn 8, .inl (cJ, 13, .inr (.inl n_f8))), (bn 9, .inl (cJ, 13, .inr (.inl n_f9)))]) (wr := [(h0, oX9 b), (b 1, oX0 bt t_lines t_span t_rule t_odds t_wide t_high t_creeks t_houses t_widows t_acts)]) hP hD hS hA [5, 1, 2, 3, 4] [0, 6] rfl rfl rfl (by decide) (va_runVN (As := [.ref (b 4), .int p0]) (rest := []) ⟨hx, hb, hml, hown, hts⟩ (f_X3_lay l G cI cJ cZ cB cQ _ (b 7) (b 4) p0 k_cells k_across k_down bn n_field n_houses n_f7 n_f8 n_f9 (by omega) (by omega) hl_n_houses hh_n_houses) ⟨va_cnB (host := "WidowRoads") 2 hts (gW w_781) rfl rfl rfl (nz_nw hZ nw_778 rfl) (hts _ w_8) hd_X3_lay ⟨Nat.le_of_ble_eq_true rfl, Nat.le_of_ble_eq_true rfl⟩, (hts _ w_780), (hts _ wp_45)⟩ (mV hK hZ hP hD [5, 1, 2, 3, 4] rfl rfl [.ref (b 4), .int p0] 5 3 rfl rfl) rfl rfl hl.1 rfl (lv_room (Nat.le_of_ble_eq_true rfl)) dX9_missing_23 ⟨Nat.le_of_ble_eq_true rfl, Nat.le_of_ble_eq_true rfl⟩) (fun u9 H locs hw10 hP hD hS => ?_)
    obtain ⟨o_cellso11, o_acrosso12, o_downo13⟩ := u9
    try dsimp only at hw10
    have hP : va_P G vwCl [(h0, oX9 b), (b 1, oX0 bt t_lines t_span t_rule t_odds t_wide t_high t_creeks t_houses t_widows t_acts), (b 7, oX3 z0 o_cellso11 o_acrosso12 o_downo13), (b 4, oX6 bn n_field n_houses), (bn 7, .inl (cJ, 13, .inr (.inl n_f7))), (bn 8, .inl (cJ, 13, .inr (.inl n_f8))), (bn 9, .inl (cJ, 13, .inr (.inl n_f9)))] H := hP
    have hD : va_D A [(h0, oX9 b), (b 1, oX0 bt t_lines t_span t_rule t_odds t_wide t_high t_creeks t_houses t_widows t_acts), (b 7, oX3 z0 o_cellso11 o_acrosso12 o_downo13), (b 4, oX6 bn n_field n_houses), (bn 7, .inl (cJ, 13, .inr (.inl n_f7))), (bn 8, .inl (cJ, 13, .inr (.inl n_f8))), (bn 9, .inl (cJ, 13, .inr (.inl n_f9)))] := hD
    refine lv_aload_n hx hb dX9_missing_26 rfl (lv_at hl 0 rfl) ?_
    refine va_get (D := G) (ci := 9) (v := .ref (b 7)) (C := RX9) (T := TX9) (N := 11) hx hb hts iG_X9 hown hK hP 0 rfl rfl 7 (by decide) (hts _ w_358) (fun _ h9 => h9) rfl dX9_missing_27 ?_
    refine k_i (wc := [(b 7, oX3 z0 o_cellso11 o_acrosso12 o_downo13)]) (wr := [(h0, oX9 b), (b 1, oX0 bt t_lines t_span t_rule t_odds t_wide t_high t_creeks t_houses t_widows t_acts), (b 4, oX6 bn n_field n_houses), (bn 7, .inl (cJ, 13, .inr (.inl n_f7))), (bn 8, .inl (cJ, 13, .inr (.inl n_f8))), (bn 9, .inl (cJ, 13, .inr (.inl n_f9)))]) hP hD hS hA [2] [0, 1, 3, 4, 5, 6] rfl rfl rfl (by decide) (va_runVN (As := []) (rest := []) ⟨hx, hb, hml, hown, hts⟩ (f_X3_parts l G cI cJ cZ cB cQ _ (b 7) o_cellso11 o_acrosso12 o_downo13) ⟨va_cnB (host := "WidowRoads") 0 hts (gW w_810) rfl rfl rfl (nz_nw hZ nw_807 rfl) (hts _ w_8) hd_X3_parts ⟨Nat.le_of_ble_eq_true rfl, Nat.le_of_ble_eq_true rfl⟩, (hts _ w_809), (hts _ wp_48)⟩ (mV hK hZ hP hD [2] rfl rfl [] 2 3 rfl rfl) rfl rfl hl.1 rfl (lv_room (Nat.le_of_ble_eq_true rfl)) dX9_missing_30 ⟨Nat.le_of_ble_eq_true rfl, Nat.le_of_ble_eq_true rfl⟩) (fun r14 u15 H locs hw16 hP hD hS => ?_)
    try dsimp only at hw16
    have hP : va_P G vwCl [(h0, oX9 b), (b 1, oX0 bt t_lines t_span t_rule t_odds t_wide t_high t_creeks t_houses t_widows t_acts), (b 4, oX6 bn n_field n_houses), (bn 7, .inl (cJ, 13, .inr (.inl n_f7))), (bn 8, .inl (cJ, 13, .inr (.inl n_f8))), (bn 9, .inl (cJ, 13, .inr (.inl n_f9))), (b 7, oX3 z0 o_cellso11 o_acrosso12 o_downo13)] H := hP
    have hD : va_D A [(h0, oX9 b), (b 1, oX0 bt t_lines t_span t_rule t_odds t_wide t_high t_creeks t_houses t_widows t_acts), (b 4, oX6 bn n_field n_houses), (bn 7, .inl (cJ, 13, .inr (.inl n_f7))), (bn 8, .inl (cJ, 13, .inr (.inl n_f8))), (bn 9, .inl (cJ, 13, .inr (.inl n_f9))), (b 7, oX3 z0 o_cellso11 o_acrosso12 o_downo13)] := hD
    refine lv_istore_n (lv' := [(2, .int r14), (0, .ref h0), (1, .int p0)]) hx hb dX9_missing_33 rfl hl (by decide) rfl (fun ls hl => ?_)
    refine lv_aload_n hx hb dX9_missing_34 rfl (lv_at hl 1 rfl) ?_
    refine va_get (D := G) (ci := 9) (v := .ref (b 7)) (C := RX9) (T := TX9) (N := 11) hx hb hts iG_X9 hown hK hP 0 rfl rfl 7 (by decide) (hts _ w_358) (fun _ h9 => h9) rfl dX9_missing_35 ?_
    refine lv_aload_n hx hb dX9_missing_38 rfl (lv_at hl 1 rfl) ?_
    refine va_get (D := G) (ci := 9) (v := .ref (b 4)) (C := RX9) (T := TX9) (N := 11) hx hb hts iG_X9 hown hK hP 0 rfl rfl 4 (by decide) (hts _ w_355) (fun _ h9 => h9) rfl dX9_missing_39 ?_
    refine va_getN (D := G) (ci := 6) (v := .ref (bn 7)) (C := RX6) (T := TX6) (N := 12) hx hb hts iG_X6 hown hK hP 2 rfl rfl 7 (by decide) (nz_use hZ nw_249 rfl) (fun _ h9 => h9) rfl dX9_missing_42 ?_
    refine lv_iload_n hx hb dX9_missing_45 rfl (lv_at hl 2 rfl) ?_
    refine va_lald hx hb hK hP 3 1 rfl rfl (ix_in rfl (by omega) (by omega)) dX9_missing_46 ?_
    refine lv_topl (fun v17 ev17 => ?_)
    refine k_v (wc := [(b 7, oX3 z0 o_cellso11 o_acrosso12 o_downo13)]) (wr := [(h0, oX9 b), (b 1, oX0 bt t_lines t_span t_rule t_odds t_wide t_high t_creeks t_houses t_widows t_acts), (b 4, oX6 bn n_field n_houses), (bn 7, .inl (cJ, 13, .inr (.inl n_f7))), (bn 8, .inl (cJ, 13, .inr (.inl n_f8))), (bn 9, .inl (cJ, 13, .inr (.inl n_f9)))]) hP hD hS hA [6] [0, 1, 2, 3, 4, 5] rfl rfl rfl (by decide) (va_runVN (As := [.long v17]) (rest := []) ⟨hx, hb, hml, hown, hts⟩ (f_X3_layAll l G cI cJ cZ cB cQ _ (b 7) v17 o_cellso11 o_acrosso12 o_downo13) ⟨va_cnB (host := "WidowRoads") 1 hts (gW w_745) rfl rfl rfl (nz_nw hZ nw_742 rfl) (hts _ w_8) hd_X3_layAll ⟨Nat.le_of_ble_eq_true rfl, Nat.le_of_ble_eq_true rfl⟩, (hts _ w_744), (hts _ wp_41)⟩ (mV hK hZ hP hD [6] rfl rfl [.long v17] 6 3 rfl rfl) rfl rfl hl.1 rfl (lv_room (Nat.le_of_ble_eq_true rfl)) dX9_missing_47 ⟨Nat.le_of_ble_eq_true rfl, Nat.le_of_ble_eq_true rfl⟩) (fun u19 H locs hw20 hP hD hS => ?_)
    obtain ⟨o_cellso21, o_acrosso22, o_downo23⟩ := u19
    try dsimp only at hw20
    have hP : va_P G vwCl [(h0, oX9 b), (b 1, oX0 bt t_lines t_span t_rule t_odds t_wide t_high t_creeks t_houses t_widows t_acts), (b 4, oX6 bn n_field n_houses), (bn 7, .inl (cJ, 13, .inr (.inl n_f7))), (bn 8, .inl (cJ, 13, .inr (.inl n_f8))), (bn 9, .inl (cJ, 13, .inr (.inl n_f9))), (b 7, oX3 z0 o_cellso21 o_acrosso22 o_downo23)] H := hP
    have hD : va_D A [(h0, oX9 b), (b 1, oX0 bt t_lines t_span t_rule t_odds t_wide t_high t_creeks t_houses t_widows t_acts), (b 4, oX6 bn n_field n_houses), (bn 7, .inl (cJ, 13, .inr (.inl n_f7))), (bn 8, .inl (cJ, 13, .inr (.inl n_f8))), (bn 9, .inl (cJ, 13, .inr (.inl n_f9))), (b 7, oX3 z0 o_cellso21 o_acrosso22 o_downo23)] := hD
    refine lv_aload_n hx hb dX9_missing_50 rfl (lv_at hl 1 rfl) ?_
    refine va_get (D := G) (ci := 9) (v := .ref (b 7)) (C := RX9) (T := TX9) (N := 11) hx hb hts iG_X9 hown hK hP 0 rfl rfl 7 (by decide) (hts _ w_358) (fun _ h9 => h9) rfl dX9_missing_51 ?_
    refine k_i (wc := [(b 7, oX3 z0 o_cellso21 o_acrosso22 o_downo23)]) (wr := [(h0, oX9 b), (b 1, oX0 bt t_lines t_span t_rule t_odds t_wide t_high t_creeks t_houses t_widows t_acts), (b 4, oX6 bn n_field n_houses), (bn 7, .inl (cJ, 13, .inr (.inl n_f7))), (bn 8, .inl (cJ, 13, .inr (.inl n_f8))), (bn 9, .inl (cJ, 13, .inr (.inl n_f9)))]) hP hD hS hA [6] [0, 1, 2, 3, 4, 5] rfl rfl rfl (by decide) (va_runVN (As := []) (rest := []) ⟨hx, hb, hml, hown, hts⟩ (f_X3_parts l G cI cJ cZ cB cQ _ (b 7) o_cellso21 o_acrosso22 o_downo23) ⟨va_cnB (host := "WidowRoads") 0 hts (gW w_810) rfl rfl rfl (nz_nw hZ nw_807 rfl) (hts _ w_8) hd_X3_parts ⟨Nat.le_of_ble_eq_true rfl, Nat.le_of_ble_eq_true rfl⟩, (hts _ w_809), (hts _ wp_48)⟩ (mV hK hZ hP hD [6] rfl rfl [] 6 3 rfl rfl) rfl rfl hl.1 rfl (lv_room (Nat.le_of_ble_eq_true rfl)) dX9_missing_54 ⟨Nat.le_of_ble_eq_true rfl, Nat.le_of_ble_eq_true rfl⟩) (fun r24 u25 H locs hw26 hP hD hS => ?_)
    try dsimp only at hw26
    have hP : va_P G vwCl [(h0, oX9 b), (b 1, oX0 bt t_lines t_span t_rule t_odds t_wide t_high t_creeks t_houses t_widows t_acts), (b 4, oX6 bn n_field n_houses), (bn 7, .inl (cJ, 13, .inr (.inl n_f7))), (bn 8, .inl (cJ, 13, .inr (.inl n_f8))), (bn 9, .inl (cJ, 13, .inr (.inl n_f9))), (b 7, oX3 z0 o_cellso21 o_acrosso22 o_downo23)] H := hP
    have hD : va_D A [(h0, oX9 b), (b 1, oX0 bt t_lines t_span t_rule t_odds t_wide t_high t_creeks t_houses t_widows t_acts), (b 4, oX6 bn n_field n_houses), (bn 7, .inl (cJ, 13, .inr (.inl n_f7))), (bn 8, .inl (cJ, 13, .inr (.inl n_f8))), (bn 9, .inl (cJ, 13, .inr (.inl n_f9))), (b 7, oX3 z0 o_cellso21 o_acrosso22 o_downo23)] := hD
    refine lv_iconst (v := 1) hx hb dX9_missing_57 (by decide) ?_
    refine lv_icmp_le (tgt := 63) hx hb dX9_missing_58 (by decide) (fun c27 => ?_) (fun c27 => ?_)
    · have c27 := i_le rfl ki_1 c27
      refine lv_iload_n hx hb dX9_missing_63 rfl (lv_at hl 0 rfl) ?_
      refine lv_iconst (v := 1) hx hb dX9_missing_64 (by decide) ?_
      refine lv_isub hx hb dX9_missing_65 ?_
      refine lv_topi (fun v28 ev28 => ?_)
      refine lv_iconst (v := 0) hx hb dX9_missing_66 (by decide) ?_
      refine va_mmax hx hb (by rw [hml]; exact hl.1.symm) hown (hts _ w_821) (hts _ w_822) (hts _ w_16) (hts _ w_823) (Nat.le_of_ble_eq_true rfl) (Nat.le_of_ble_eq_true rfl) (Nat.le_of_ble_eq_true rfl) (Nat.le_of_ble_eq_true rfl) dX9_missing_67 ?_
      refine lv_topi (fun v29 ev29 => ?_)
      exact hret _ _ _ _ v29 (o_cellso21, o_acrosso22, o_downo23) hP hD hS dX9_missing_70 trivial
    · have c27 := i_nle rfl ki_1 c27
      refine lv_iconst (v := (-1)) hx hb dX9_missing_61 (by decide) ?_
      exact hret _ _ _ _ (-1) (o_cellso21, o_acrosso22, o_downo23) hP hD hS dX9_missing_62 trivial
  · skip
    refine lv_if_ne (tgt := 14) hx hb dX9_missing_8 (by decide) (fun c30 => absurd (by decide) c30) (fun c30 => ?_)
    refine lv_bipush (v := (-2)) hx hb dX9_missing_11 (by decide) ?_
    exact hret _ _ _ _ (-2) (k_cells, k_across, k_down) (hP.sub (ws' := [(h0, oX9 b), (b 1, oX0 bt t_lines t_span t_rule t_odds t_wide t_high t_creeks t_houses t_widows t_acts), (b 4, oX6 bn n_field n_houses), (bn 7, .inl (cJ, 13, .inr (.inl n_f7))), (bn 8, .inl (cJ, 13, .inr (.inl n_f8))), (bn 9, .inl (cJ, 13, .inr (.inl n_f9))), (b 7, oX3 z0 k_cells k_across k_down)]) [0, 6, 1, 2, 3, 4, 5] rfl) (hD.sub (ws' := [(h0, oX9 b), (b 1, oX0 bt t_lines t_span t_rule t_odds t_wide t_high t_creeks t_houses t_widows t_acts), (b 4, oX6 bn n_field n_houses), (bn 7, .inl (cJ, 13, .inr (.inl n_f7))), (bn 8, .inl (cJ, 13, .inr (.inl n_f8))), (bn 9, .inl (cJ, 13, .inr (.inl n_f9))), (b 7, oX3 z0 k_cells k_across k_down)]) [0, 6, 1, 2, 3, 4, 5] rfl rfl) hS dX9_missing_13 trivial
set_option maxHeartbeats 4000000 in
set_option maxRecDepth 100000 in
theorem f_X9_rings (l : Launch) (G : va_G) (cI cJ cZ cB cQ : ClassId) (sz : Nat) (h0 : Nat) (p0 : Int32) (b : Nat → Nat) (bt : Nat → Nat) (t_lines : Int32) (t_span : Int32) (t_rule : Int32) (t_odds : Int32) (t_wide : Int32) (t_high : Int32) (t_creeks : Int32) (t_houses : Int32) (t_widows : Int32) (t_acts : Int32) (bn : Nat → Nat) (n_field : Int64) (n_houses : Int32) (n_f7 : Nat → Int64) (n_f8 : Nat → Int64) (n_f9 : Nat → Int64) (k_cells : Int64) (k_across : Int64) (k_down : Int64) (hl_t_span : 0 ≤ t_span.toInt) (hh_t_span : t_span.toInt ≤ 12) (hl_t_rule : 0 ≤ t_rule.toInt) (hh_t_rule : t_rule.toInt ≤ 3) (hl_t_odds : 0 ≤ t_odds.toInt) (hh_t_odds : t_odds.toInt ≤ 10) (hl_t_wide : 0 ≤ t_wide.toInt) (hh_t_wide : t_wide.toInt ≤ 8) (hl_t_high : 0 ≤ t_high.toInt) (hh_t_high : t_high.toInt ≤ 8) (hl_t_creeks : 0 ≤ t_creeks.toInt) (hh_t_creeks : t_creeks.toInt ≤ 12) (hl_t_houses : 0 ≤ t_houses.toInt) (hh_t_houses : t_houses.toInt ≤ 6) (hl_t_widows : 0 ≤ t_widows.toInt) (hh_t_widows : t_widows.toInt ≤ 7) (hl_t_acts : 0 ≤ t_acts.toInt) (hh_t_acts : t_acts.toInt ≤ 30) (hl_n_houses : 0 ≤ n_houses.toInt) (hh_n_houses : n_houses.toInt ≤ 6) : CI l yX9_rings (wl_ yX9_rings cX9_rings 2 (some .int)) ({ frames := 3, cells := 0, slots := 0, locals := 80 } : Room) G (TY cI cJ cZ cB cQ) [.ref h0, .int p0] [(h0, oX9 b), (b 1, oX0 bt t_lines t_span t_rule t_odds t_wide t_high t_creeks t_houses t_widows t_acts), (b 4, oX6 bn n_field n_houses), (bn 7, .inl (cJ, 13, .inr (.inl n_f7))), (bn 8, .inl (cJ, 13, .inr (.inl n_f8))), (bn 9, .inl (cJ, 13, .inr (.inl n_f9))), (b 7, oX3 z0 k_cells k_across k_down)] sz (fun (r : Int32) (u : Int64 × Int64 × Int64) => True) (fun u : Int64 × Int64 × Int64 => [(h0, oX9 b), (b 1, oX0 bt t_lines t_span t_rule t_odds t_wide t_high t_creeks t_houses t_widows t_acts), (b 4, oX6 bn n_field n_houses), (bn 7, .inl (cJ, 13, .inr (.inl n_f7))), (bn 8, .inl (cJ, 13, .inr (.inl n_f8))), (bn 9, .inl (cJ, 13, .inr (.inl n_f9))), (b 7, oX3 z0 u.1 u.2.1 u.2.2)]) 0 0 := by
  refine CI.go (cc := cX9_rings) (maxL := 2) (ret := (some .int)) (by decide) rfl (Nat.le_of_ble_eq_true rfl) ?_
  intro p e s m below meth c A ls Q hBd hret
  obtain ⟨hx, hb, hr, hml, hts, hown, hlk, hnm, hP, hK, hD, hA, hZ, hl⟩ := hBd
  have hown : s.vm.findClass RX9 = some m.cls := hown
  have hl : lv_has ls 2 [(0, .ref h0), (1, .int p0)] := hl
  have hS : va_S A s.heap s.heap [] := va_S.rf
  refine lv_aload_n hx hb dX9_rings_0 rfl (lv_at hl 0 rfl) ?_
  refine va_get (D := G) (ci := 9) (v := .ref (b 1)) (C := RX9) (T := TX9) (N := 11) hx hb hts iG_X9 hown hK hP 0 rfl rfl 1 (by decide) (hts _ w_352) (fun _ h9 => h9) rfl dX9_rings_1 ?_
  refine lv_iload_n hx hb dX9_rings_4 rfl (lv_at hl 1 rfl) ?_
  refine k_i (wc := [(b 1, oX0 bt t_lines t_span t_rule t_odds t_wide t_high t_creeks t_houses t_widows t_acts)]) (wr := [(h0, oX9 b), (b 4, oX6 bn n_field n_houses), (bn 7, .inl (cJ, 13, .inr (.inl n_f7))), (bn 8, .inl (cJ, 13, .inr (.inl n_f8))), (bn 9, .inl (cJ, 13, .inr (.inl n_f9))), (b 7, oX3 z0 k_cells k_across k_down)]) hP hD hS hA [1] [0, 2, 3, 4, 5, 6] rfl rfl rfl (by decide) (va_runVN (As := [.int p0]) (rest := []) ⟨hx, hb, hml, hown, hts⟩ (f_X0_hasYear l G cI cJ cZ cB cQ _ (b 1) p0 p0.toInt bt t_lines t_span t_rule t_odds t_wide t_high t_creeks t_houses t_widows t_acts rfl hl_t_span hh_t_span hl_t_rule hh_t_rule hl_t_odds hh_t_odds hl_t_wide hh_t_wide hl_t_high hh_t_high hl_t_creeks hh_t_creeks hl_t_houses hh_t_houses hl_t_widows hh_t_widows hl_t_acts hh_t_acts) ⟨va_cnB (host := "WidowRoads") 1 hts (gW w_727) rfl rfl rfl (nz_nw hZ nw_724 rfl) (hts _ w_4) hd_X0_hasYear ⟨Nat.le_of_ble_eq_true rfl, Nat.le_of_ble_eq_true rfl⟩, (hts _ w_726), (hts _ wp_39)⟩ (mV hK hZ hP hD [1] rfl rfl [.int p0] 1 0 rfl rfl) rfl rfl hl.1 rfl (lv_room (Nat.le_of_ble_eq_true rfl)) dX9_rings_5 ⟨Nat.le_of_ble_eq_true rfl, Nat.le_of_ble_eq_true rfl⟩) (fun r1 u2 H locs hw3 hP hD hS => ?_)
  try dsimp only at hw3
  have hP : va_P G vwCl [(h0, oX9 b), (b 4, oX6 bn n_field n_houses), (bn 7, .inl (cJ, 13, .inr (.inl n_f7))), (bn 8, .inl (cJ, 13, .inr (.inl n_f8))), (bn 9, .inl (cJ, 13, .inr (.inl n_f9))), (b 7, oX3 z0 k_cells k_across k_down), (b 1, oX0 bt t_lines t_span t_rule t_odds t_wide t_high t_creeks t_houses t_widows t_acts)] H := hP
  have hD : va_D A [(h0, oX9 b), (b 4, oX6 bn n_field n_houses), (bn 7, .inl (cJ, 13, .inr (.inl n_f7))), (bn 8, .inl (cJ, 13, .inr (.inl n_f8))), (bn 9, .inl (cJ, 13, .inr (.inl n_f9))), (b 7, oX3 z0 k_cells k_across k_down), (b 1, oX0 bt t_lines t_span t_rule t_odds t_wide t_high t_creeks t_houses t_widows t_acts)] := hD
  rcases hw3 with ⟨rfl, a5, a6⟩ | rfl
  · skip
    refine lv_if_ne (tgt := 14) hx hb dX9_rings_8 (by decide) (fun c7 => ?_) (fun c7 => absurd c7 (by decide))
    refine lv_aload_n hx hb dX9_rings_14 rfl (lv_at hl 0 rfl) ?_
    refine va_get (D := G) (ci := 9) (v := .ref (b 7)) (C := RX9) (T := TX9) (N := 11) hx hb hts iG_X9 hown hK hP 0 rfl rfl 7 (by decide) (hts _ w_358) (fun _ h9 => h9) rfl dX9_rings_15 ?_
    refine lv_aload_n hx hb dX9_rings_18 rfl (lv_at hl 0 rfl) ?_
    refine va_get (D := G) (ci := 9) (v := .ref (b 4)) (C := RX9) (T := TX9) (N := 11) hx hb hts iG_X9 hown hK hP 0 rfl rfl 4 (by decide) (hts _ w_355) (fun _ h9 => h9) rfl dX9_rings_19 ?_
    refine lv_iload_n hx hb dX9_rings_22 rfl (lv_at hl 1 rfl) ?_
    refine k_v (wc := [(b 7, oX3 z0 k_cells k_across k_down), (b 4, oX6 bn n_field n_houses), (bn 7, .inl (cJ, 13, .inr (.inl n_f7))), (bn 8, .inl (cJ, 13, .inr (.inl n_f8))), (bn 9, .inl (cJ, 13, .inr (.inl n_f9)))]) (wr := [(h0, oX9 b), (b 1, oX0 bt t_lines t_span t_rule t_odds t_wide t_high t_creeks t_houses t_widows t_acts)]) hP hD hS hA [5, 1, 2, 3, 4] [0, 6] rfl rfl rfl (by decide) (va_runVN (As := [.ref (b 4), .int p0]) (rest := []) ⟨hx, hb, hml, hown, hts⟩ (f_X3_lay l G cI cJ cZ cB cQ _ (b 7) (b 4) p0 k_cells k_across k_down bn n_field n_houses n_f7 n_f8 n_f9 (by omega) (by omega) hl_n_houses hh_n_houses) ⟨va_cnB (host := "WidowRoads") 2 hts (gW w_781) rfl rfl rfl (nz_nw hZ nw_778 rfl) (hts _ w_8) hd_X3_lay ⟨Nat.le_of_ble_eq_true rfl, Nat.le_of_ble_eq_true rfl⟩, (hts _ w_780), (hts _ wp_45)⟩ (mV hK hZ hP hD [5, 1, 2, 3, 4] rfl rfl [.ref (b 4), .int p0] 5 3 rfl rfl) rfl rfl hl.1 rfl (lv_room (Nat.le_of_ble_eq_true rfl)) dX9_rings_23 ⟨Nat.le_of_ble_eq_true rfl, Nat.le_of_ble_eq_true rfl⟩) (fun u9 H locs hw10 hP hD hS => ?_)
    obtain ⟨o_cellso11, o_acrosso12, o_downo13⟩ := u9
    try dsimp only at hw10
    have hP : va_P G vwCl [(h0, oX9 b), (b 1, oX0 bt t_lines t_span t_rule t_odds t_wide t_high t_creeks t_houses t_widows t_acts), (b 7, oX3 z0 o_cellso11 o_acrosso12 o_downo13), (b 4, oX6 bn n_field n_houses), (bn 7, .inl (cJ, 13, .inr (.inl n_f7))), (bn 8, .inl (cJ, 13, .inr (.inl n_f8))), (bn 9, .inl (cJ, 13, .inr (.inl n_f9)))] H := hP
    have hD : va_D A [(h0, oX9 b), (b 1, oX0 bt t_lines t_span t_rule t_odds t_wide t_high t_creeks t_houses t_widows t_acts), (b 7, oX3 z0 o_cellso11 o_acrosso12 o_downo13), (b 4, oX6 bn n_field n_houses), (bn 7, .inl (cJ, 13, .inr (.inl n_f7))), (bn 8, .inl (cJ, 13, .inr (.inl n_f8))), (bn 9, .inl (cJ, 13, .inr (.inl n_f9)))] := hD
    refine lv_aload_n hx hb dX9_rings_26 rfl (lv_at hl 0 rfl) ?_
    refine va_get (D := G) (ci := 9) (v := .ref (b 4)) (C := RX9) (T := TX9) (N := 11) hx hb hts iG_X9 hown hK hP 0 rfl rfl 4 (by decide) (hts _ w_355) (fun _ h9 => h9) rfl dX9_rings_27 ?_
    refine lv_iload_n hx hb dX9_rings_30 rfl (lv_at hl 1 rfl) ?_
    refine k_i (wc := [(b 4, oX6 bn n_field n_houses), (bn 8, .inl (cJ, 13, .inr (.inl n_f8))), (bn 9, .inl (cJ, 13, .inr (.inl n_f9)))]) (wr := [(h0, oX9 b), (b 1, oX0 bt t_lines t_span t_rule t_odds t_wide t_high t_creeks t_houses t_widows t_acts), (b 7, oX3 z0 o_cellso11 o_acrosso12 o_downo13), (bn 7, .inl (cJ, 13, .inr (.inl n_f7)))]) hP hD hS hA [3, 5, 6] [0, 1, 2, 4] rfl rfl rfl (by decide) (va_runVN (As := [.int p0]) (rest := []) ⟨hx, hb, hml, hown, hts⟩ (f_X6_pegsIn l G cI cJ cZ cB cQ _ (b 4) p0 bn n_field n_houses n_f8 n_f9 (by omega) (by omega) hl_n_houses hh_n_houses) ⟨va_cnB (host := "WidowRoads") 1 hts (gW w_772) rfl rfl rfl (nz_nw hZ nw_769 rfl) (hts _ w_6) hd_X6_pegsIn ⟨Nat.le_of_ble_eq_true rfl, Nat.le_of_ble_eq_true rfl⟩, (hts _ w_771), (hts _ wp_44)⟩ (mV hK hZ hP hD [3, 5, 6] rfl rfl [.int p0] 3 6 rfl rfl) rfl rfl hl.1 rfl (lv_room (Nat.le_of_ble_eq_true rfl)) dX9_rings_31 ⟨Nat.le_of_ble_eq_true rfl, Nat.le_of_ble_eq_true rfl⟩) (fun r14 u15 H locs hw16 hP hD hS => ?_)
    try dsimp only at hw16
    have hP : va_P G vwCl [(h0, oX9 b), (b 1, oX0 bt t_lines t_span t_rule t_odds t_wide t_high t_creeks t_houses t_widows t_acts), (b 7, oX3 z0 o_cellso11 o_acrosso12 o_downo13), (bn 7, .inl (cJ, 13, .inr (.inl n_f7))), (b 4, oX6 bn n_field n_houses), (bn 8, .inl (cJ, 13, .inr (.inl n_f8))), (bn 9, .inl (cJ, 13, .inr (.inl n_f9)))] H := hP
    have hD : va_D A [(h0, oX9 b), (b 1, oX0 bt t_lines t_span t_rule t_odds t_wide t_high t_creeks t_houses t_widows t_acts), (b 7, oX3 z0 o_cellso11 o_acrosso12 o_downo13), (bn 7, .inl (cJ, 13, .inr (.inl n_f7))), (b 4, oX6 bn n_field n_houses), (bn 8, .inl (cJ, 13, .inr (.inl n_f8))), (bn 9, .inl (cJ, 13, .inr (.inl n_f9)))] := hD
    refine lv_aload_n hx hb dX9_rings_34 rfl (lv_at hl 0 rfl) ?_
    refine va_get (D := G) (ci := 9) (v := .ref (b 4)) (C := RX9) (T := TX9) (N := 11) hx hb hts iG_X9 hown hK hP 0 rfl rfl 4 (by decide) (hts _ w_355) (fun _ h9 => h9) rfl dX9_rings_35 ?_
    refine va_getN (D := G) (ci := 6) (v := .ref (bn 7)) (C := RX6) (T := TX6) (N := 12) hx hb hts iG_X6 hown hK hP 4 rfl rfl 7 (by decide) (nz_use hZ nw_249 rfl) (fun _ h9 => h9) rfl dX9_rings_38 ?_
    refine lv_iload_n hx hb dX9_rings_41 rfl (lv_at hl 1 rfl) ?_
    refine va_lald hx hb hK hP 3 1 rfl rfl (ix_in rfl (by omega) (by omega)) dX9_rings_42 ?_
    refine lv_topl (fun v17 ev17 => ?_)
    refine k_i (wc := []) (wr := [(h0, oX9 b), (b 1, oX0 bt t_lines t_span t_rule t_odds t_wide t_high t_creeks t_houses t_widows t_acts), (b 7, oX3 z0 o_cellso11 o_acrosso12 o_downo13), (bn 7, .inl (cJ, 13, .inr (.inl n_f7))), (b 4, oX6 bn n_field n_houses), (bn 8, .inl (cJ, 13, .inr (.inl n_f8))), (bn 9, .inl (cJ, 13, .inr (.inl n_f9)))]) hP hD hS hA [] [0, 1, 2, 3, 4, 5, 6] rfl rfl rfl (by decide) (va_runS (As := [.long v17]) (rest := [.int r14]) ⟨hx, hb, hml, hown, hts⟩ (f_J13_bitCount_95d88 l G cI cJ cZ cB cQ _ v17) (va_cwS 1 hts (gS w_639 w_640 w_18 w_641) rfl rfl rfl hd_J13_bitCount_95d88 ⟨Nat.le_of_ble_eq_true rfl, Nat.le_of_ble_eq_true rfl⟩) (mS hK hZ hP hD [] rfl rfl [.long v17]) rfl rfl hl.1 rfl (lv_room (Nat.le_of_ble_eq_true rfl)) dX9_rings_43 ⟨Nat.le_of_ble_eq_true rfl, Nat.le_of_ble_eq_true rfl⟩) (fun r18 u19 H locs hw20 hP hD hS => ?_)
    try dsimp only at hw20
    have hP : va_P G vwCl [(h0, oX9 b), (b 1, oX0 bt t_lines t_span t_rule t_odds t_wide t_high t_creeks t_houses t_widows t_acts), (b 7, oX3 z0 o_cellso11 o_acrosso12 o_downo13), (bn 7, .inl (cJ, 13, .inr (.inl n_f7))), (b 4, oX6 bn n_field n_houses), (bn 8, .inl (cJ, 13, .inr (.inl n_f8))), (bn 9, .inl (cJ, 13, .inr (.inl n_f9)))] H := hP
    have hD : va_D A [(h0, oX9 b), (b 1, oX0 bt t_lines t_span t_rule t_odds t_wide t_high t_creeks t_houses t_widows t_acts), (b 7, oX3 z0 o_cellso11 o_acrosso12 o_downo13), (bn 7, .inl (cJ, 13, .inr (.inl n_f7))), (b 4, oX6 bn n_field n_houses), (bn 8, .inl (cJ, 13, .inr (.inl n_f8))), (bn 9, .inl (cJ, 13, .inr (.inl n_f9)))] := hD
    obtain ⟨w21, w22⟩ : 0 ≤ r18.toInt ∧ r18.toInt ≤ 127 := hw20
    refine lv_isub hx hb dX9_rings_46 ?_
    refine lv_topi (fun v23 ev23 => ?_)
    refine lv_aload_n hx hb dX9_rings_47 rfl (lv_at hl 0 rfl) ?_
    refine va_get (D := G) (ci := 9) (v := .ref (b 7)) (C := RX9) (T := TX9) (N := 11) hx hb hts iG_X9 hown hK hP 0 rfl rfl 7 (by decide) (hts _ w_358) (fun _ h9 => h9) rfl dX9_rings_48 ?_
    refine k_i (wc := [(b 7, oX3 z0 o_cellso11 o_acrosso12 o_downo13)]) (wr := [(h0, oX9 b), (b 1, oX0 bt t_lines t_span t_rule t_odds t_wide t_high t_creeks t_houses t_widows t_acts), (bn 7, .inl (cJ, 13, .inr (.inl n_f7))), (b 4, oX6 bn n_field n_houses), (bn 8, .inl (cJ, 13, .inr (.inl n_f8))), (bn 9, .inl (cJ, 13, .inr (.inl n_f9)))]) hP hD hS hA [2] [0, 1, 3, 4, 5, 6] rfl rfl rfl (by decide) (va_runVN (As := []) (rest := [.int v23]) ⟨hx, hb, hml, hown, hts⟩ (f_X3_parts l G cI cJ cZ cB cQ _ (b 7) o_cellso11 o_acrosso12 o_downo13) ⟨va_cnB (host := "WidowRoads") 0 hts (gW w_810) rfl rfl rfl (nz_nw hZ nw_807 rfl) (hts _ w_8) hd_X3_parts ⟨Nat.le_of_ble_eq_true rfl, Nat.le_of_ble_eq_true rfl⟩, (hts _ w_809), (hts _ wp_48)⟩ (mV hK hZ hP hD [2] rfl rfl [] 2 3 rfl rfl) rfl rfl hl.1 rfl (lv_room (Nat.le_of_ble_eq_true rfl)) dX9_rings_51 ⟨Nat.le_of_ble_eq_true rfl, Nat.le_of_ble_eq_true rfl⟩) (fun r24 u25 H locs hw26 hP hD hS => ?_)
    try dsimp only at hw26
    have hP : va_P G vwCl [(h0, oX9 b), (b 1, oX0 bt t_lines t_span t_rule t_odds t_wide t_high t_creeks t_houses t_widows t_acts), (bn 7, .inl (cJ, 13, .inr (.inl n_f7))), (b 4, oX6 bn n_field n_houses), (bn 8, .inl (cJ, 13, .inr (.inl n_f8))), (bn 9, .inl (cJ, 13, .inr (.inl n_f9))), (b 7, oX3 z0 o_cellso11 o_acrosso12 o_downo13)] H := hP
    have hD : va_D A [(h0, oX9 b), (b 1, oX0 bt t_lines t_span t_rule t_odds t_wide t_high t_creeks t_houses t_widows t_acts), (bn 7, .inl (cJ, 13, .inr (.inl n_f7))), (b 4, oX6 bn n_field n_houses), (bn 8, .inl (cJ, 13, .inr (.inl n_f8))), (bn 9, .inl (cJ, 13, .inr (.inl n_f9))), (b 7, oX3 z0 o_cellso11 o_acrosso12 o_downo13)] := hD
    refine lv_iadd hx hb dX9_rings_54 ?_
    refine lv_topi (fun v27 ev27 => ?_)
    exact hret _ _ _ _ v27 (o_cellso11, o_acrosso12, o_downo13) (hP.sub (ws' := [(h0, oX9 b), (b 1, oX0 bt t_lines t_span t_rule t_odds t_wide t_high t_creeks t_houses t_widows t_acts), (b 4, oX6 bn n_field n_houses), (bn 7, .inl (cJ, 13, .inr (.inl n_f7))), (bn 8, .inl (cJ, 13, .inr (.inl n_f8))), (bn 9, .inl (cJ, 13, .inr (.inl n_f9))), (b 7, oX3 z0 o_cellso11 o_acrosso12 o_downo13)]) [0, 1, 3, 2, 4, 5, 6] rfl) (hD.sub (ws' := [(h0, oX9 b), (b 1, oX0 bt t_lines t_span t_rule t_odds t_wide t_high t_creeks t_houses t_widows t_acts), (b 4, oX6 bn n_field n_houses), (bn 7, .inl (cJ, 13, .inr (.inl n_f7))), (bn 8, .inl (cJ, 13, .inr (.inl n_f8))), (bn 9, .inl (cJ, 13, .inr (.inl n_f9))), (b 7, oX3 z0 o_cellso11 o_acrosso12 o_downo13)]) [0, 1, 3, 2, 4, 5, 6] rfl rfl) hS dX9_rings_55 trivial
  · skip
    refine lv_if_ne (tgt := 14) hx hb dX9_rings_8 (by decide) (fun c28 => absurd (by decide) c28) (fun c28 => ?_)
    refine lv_bipush (v := (-2)) hx hb dX9_rings_11 (by decide) ?_
    exact hret _ _ _ _ (-2) (k_cells, k_across, k_down) (hP.sub (ws' := [(h0, oX9 b), (b 1, oX0 bt t_lines t_span t_rule t_odds t_wide t_high t_creeks t_houses t_widows t_acts), (b 4, oX6 bn n_field n_houses), (bn 7, .inl (cJ, 13, .inr (.inl n_f7))), (bn 8, .inl (cJ, 13, .inr (.inl n_f8))), (bn 9, .inl (cJ, 13, .inr (.inl n_f9))), (b 7, oX3 z0 k_cells k_across k_down)]) [0, 6, 1, 2, 3, 4, 5] rfl) (hD.sub (ws' := [(h0, oX9 b), (b 1, oX0 bt t_lines t_span t_rule t_odds t_wide t_high t_creeks t_houses t_widows t_acts), (b 4, oX6 bn n_field n_houses), (bn 7, .inl (cJ, 13, .inr (.inl n_f7))), (bn 8, .inl (cJ, 13, .inr (.inl n_f8))), (bn 9, .inl (cJ, 13, .inr (.inl n_f9))), (b 7, oX3 z0 k_cells k_across k_down)]) [0, 6, 1, 2, 3, 4, 5] rfl rfl) hS dX9_rings_13 trivial
set_option maxHeartbeats 4000000 in
set_option maxRecDepth 100000 in
theorem f_X9_bridges (l : Launch) (G : va_G) (cI cJ cZ cB cQ : ClassId) (sz : Nat) (h0 : Nat) (p0 : Int32) (b : Nat → Nat) (bt : Nat → Nat) (t_lines : Int32) (t_span : Int32) (t_rule : Int32) (t_odds : Int32) (t_wide : Int32) (t_high : Int32) (t_creeks : Int32) (t_houses : Int32) (t_widows : Int32) (t_acts : Int32) (bn : Nat → Nat) (n_field : Int64) (n_houses : Int32) (n_f7 : Nat → Int64) (n_f8 : Nat → Int64) (n_f9 : Nat → Int64) (k_cells : Int64) (k_across : Int64) (k_down : Int64) (hl_t_span : 0 ≤ t_span.toInt) (hh_t_span : t_span.toInt ≤ 12) (hl_t_rule : 0 ≤ t_rule.toInt) (hh_t_rule : t_rule.toInt ≤ 3) (hl_t_odds : 0 ≤ t_odds.toInt) (hh_t_odds : t_odds.toInt ≤ 10) (hl_t_wide : 0 ≤ t_wide.toInt) (hh_t_wide : t_wide.toInt ≤ 8) (hl_t_high : 0 ≤ t_high.toInt) (hh_t_high : t_high.toInt ≤ 8) (hl_t_creeks : 0 ≤ t_creeks.toInt) (hh_t_creeks : t_creeks.toInt ≤ 12) (hl_t_houses : 0 ≤ t_houses.toInt) (hh_t_houses : t_houses.toInt ≤ 6) (hl_t_widows : 0 ≤ t_widows.toInt) (hh_t_widows : t_widows.toInt ≤ 7) (hl_t_acts : 0 ≤ t_acts.toInt) (hh_t_acts : t_acts.toInt ≤ 30) (hl_n_houses : 0 ≤ n_houses.toInt) (hh_n_houses : n_houses.toInt ≤ 6) : CI l yX9_bridges (wl_ yX9_bridges cX9_bridges 2 (some .int)) ({ frames := 3, cells := 0, slots := 0, locals := 80 } : Room) G (TY cI cJ cZ cB cQ) [.ref h0, .int p0] [(h0, oX9 b), (b 1, oX0 bt t_lines t_span t_rule t_odds t_wide t_high t_creeks t_houses t_widows t_acts), (b 4, oX6 bn n_field n_houses), (bn 7, .inl (cJ, 13, .inr (.inl n_f7))), (bn 8, .inl (cJ, 13, .inr (.inl n_f8))), (bn 9, .inl (cJ, 13, .inr (.inl n_f9))), (b 7, oX3 z0 k_cells k_across k_down)] sz (fun (r : Int32) (u : Int64 × Int64 × Int64) => True) (fun u : Int64 × Int64 × Int64 => [(h0, oX9 b), (b 1, oX0 bt t_lines t_span t_rule t_odds t_wide t_high t_creeks t_houses t_widows t_acts), (b 4, oX6 bn n_field n_houses), (bn 7, .inl (cJ, 13, .inr (.inl n_f7))), (bn 8, .inl (cJ, 13, .inr (.inl n_f8))), (bn 9, .inl (cJ, 13, .inr (.inl n_f9))), (b 7, oX3 z0 u.1 u.2.1 u.2.2)]) 0 0 := by
  refine CI.go (cc := cX9_bridges) (maxL := 2) (ret := (some .int)) (by decide) rfl (Nat.le_of_ble_eq_true rfl) ?_
  intro p e s m below meth c A ls Q hBd hret
  obtain ⟨hx, hb, hr, hml, hts, hown, hlk, hnm, hP, hK, hD, hA, hZ, hl⟩ := hBd
  have hown : s.vm.findClass RX9 = some m.cls := hown
  have hl : lv_has ls 2 [(0, .ref h0), (1, .int p0)] := hl
  have hS : va_S A s.heap s.heap [] := va_S.rf
  refine lv_aload_n hx hb dX9_bridges_0 rfl (lv_at hl 0 rfl) ?_
  refine va_get (D := G) (ci := 9) (v := .ref (b 1)) (C := RX9) (T := TX9) (N := 11) hx hb hts iG_X9 hown hK hP 0 rfl rfl 1 (by decide) (hts _ w_352) (fun _ h9 => h9) rfl dX9_bridges_1 ?_
  refine lv_iload_n hx hb dX9_bridges_4 rfl (lv_at hl 1 rfl) ?_
  refine k_i (wc := [(b 1, oX0 bt t_lines t_span t_rule t_odds t_wide t_high t_creeks t_houses t_widows t_acts)]) (wr := [(h0, oX9 b), (b 4, oX6 bn n_field n_houses), (bn 7, .inl (cJ, 13, .inr (.inl n_f7))), (bn 8, .inl (cJ, 13, .inr (.inl n_f8))), (bn 9, .inl (cJ, 13, .inr (.inl n_f9))), (b 7, oX3 z0 k_cells k_across k_down)]) hP hD hS hA [1] [0, 2, 3, 4, 5, 6] rfl rfl rfl (by decide) (va_runVN (As := [.int p0]) (rest := []) ⟨hx, hb, hml, hown, hts⟩ (f_X0_hasYear l G cI cJ cZ cB cQ _ (b 1) p0 p0.toInt bt t_lines t_span t_rule t_odds t_wide t_high t_creeks t_houses t_widows t_acts rfl hl_t_span hh_t_span hl_t_rule hh_t_rule hl_t_odds hh_t_odds hl_t_wide hh_t_wide hl_t_high hh_t_high hl_t_creeks hh_t_creeks hl_t_houses hh_t_houses hl_t_widows hh_t_widows hl_t_acts hh_t_acts) ⟨va_cnB (host := "WidowRoads") 1 hts (gW w_727) rfl rfl rfl (nz_nw hZ nw_724 rfl) (hts _ w_4) hd_X0_hasYear ⟨Nat.le_of_ble_eq_true rfl, Nat.le_of_ble_eq_true rfl⟩, (hts _ w_726), (hts _ wp_39)⟩ (mV hK hZ hP hD [1] rfl rfl [.int p0] 1 0 rfl rfl) rfl rfl hl.1 rfl (lv_room (Nat.le_of_ble_eq_true rfl)) dX9_bridges_5 ⟨Nat.le_of_ble_eq_true rfl, Nat.le_of_ble_eq_true rfl⟩) (fun r1 u2 H locs hw3 hP hD hS => ?_)
  try dsimp only at hw3
  have hP : va_P G vwCl [(h0, oX9 b), (b 4, oX6 bn n_field n_houses), (bn 7, .inl (cJ, 13, .inr (.inl n_f7))), (bn 8, .inl (cJ, 13, .inr (.inl n_f8))), (bn 9, .inl (cJ, 13, .inr (.inl n_f9))), (b 7, oX3 z0 k_cells k_across k_down), (b 1, oX0 bt t_lines t_span t_rule t_odds t_wide t_high t_creeks t_houses t_widows t_acts)] H := hP
  have hD : va_D A [(h0, oX9 b), (b 4, oX6 bn n_field n_houses), (bn 7, .inl (cJ, 13, .inr (.inl n_f7))), (bn 8, .inl (cJ, 13, .inr (.inl n_f8))), (bn 9, .inl (cJ, 13, .inr (.inl n_f9))), (b 7, oX3 z0 k_cells k_across k_down), (b 1, oX0 bt t_lines t_span t_rule t_odds t_wide t_high t_creeks t_houses t_widows t_acts)] := hD
  rcases hw3 with ⟨rfl, a5, a6⟩ | rfl
  · skip
    refine lv_if_ne (tgt := 14) hx hb dX9_bridges_8 (by decide) (fun c7 => ?_) (fun c7 => absurd c7 (by decide))
    refine lv_aload_n hx hb dX9_bridges_14 rfl (lv_at hl 0 rfl) ?_
    refine va_get (D := G) (ci := 9) (v := .ref (b 7)) (C := RX9) (T := TX9) (N := 11) hx hb hts iG_X9 hown hK hP 0 rfl rfl 7 (by decide) (hts _ w_358) (fun _ h9 => h9) rfl dX9_bridges_15 ?_
    refine lv_aload_n hx hb dX9_bridges_18 rfl (lv_at hl 0 rfl) ?_
    refine va_get (D := G) (ci := 9) (v := .ref (b 4)) (C := RX9) (T := TX9) (N := 11) hx hb hts iG_X9 hown hK hP 0 rfl rfl 4 (by decide) (hts _ w_355) (fun _ h9 => h9) rfl dX9_bridges_19 ?_
    refine lv_iload_n hx hb dX9_bridges_22 rfl (lv_at hl 1 rfl) ?_
    refine k_v (wc := [(b 7, oX3 z0 k_cells k_across k_down), (b 4, oX6 bn n_field n_houses), (bn 7, .inl (cJ, 13, .inr (.inl n_f7))), (bn 8, .inl (cJ, 13, .inr (.inl n_f8))), (bn 9, .inl (cJ, 13, .inr (.inl n_f9)))]) (wr := [(h0, oX9 b), (b 1, oX0 bt t_lines t_span t_rule t_odds t_wide t_high t_creeks t_houses t_widows t_acts)]) hP hD hS hA [5, 1, 2, 3, 4] [0, 6] rfl rfl rfl (by decide) (va_runVN (As := [.ref (b 4), .int p0]) (rest := []) ⟨hx, hb, hml, hown, hts⟩ (f_X3_lay l G cI cJ cZ cB cQ _ (b 7) (b 4) p0 k_cells k_across k_down bn n_field n_houses n_f7 n_f8 n_f9 (by omega) (by omega) hl_n_houses hh_n_houses) ⟨va_cnB (host := "WidowRoads") 2 hts (gW w_781) rfl rfl rfl (nz_nw hZ nw_778 rfl) (hts _ w_8) hd_X3_lay ⟨Nat.le_of_ble_eq_true rfl, Nat.le_of_ble_eq_true rfl⟩, (hts _ w_780), (hts _ wp_45)⟩ (mV hK hZ hP hD [5, 1, 2, 3, 4] rfl rfl [.ref (b 4), .int p0] 5 3 rfl rfl) rfl rfl hl.1 rfl (lv_room (Nat.le_of_ble_eq_true rfl)) dX9_bridges_23 ⟨Nat.le_of_ble_eq_true rfl, Nat.le_of_ble_eq_true rfl⟩) (fun u9 H locs hw10 hP hD hS => ?_)
    obtain ⟨o_cellso11, o_acrosso12, o_downo13⟩ := u9
    try dsimp only at hw10
    have hP : va_P G vwCl [(h0, oX9 b), (b 1, oX0 bt t_lines t_span t_rule t_odds t_wide t_high t_creeks t_houses t_widows t_acts), (b 7, oX3 z0 o_cellso11 o_acrosso12 o_downo13), (b 4, oX6 bn n_field n_houses), (bn 7, .inl (cJ, 13, .inr (.inl n_f7))), (bn 8, .inl (cJ, 13, .inr (.inl n_f8))), (bn 9, .inl (cJ, 13, .inr (.inl n_f9)))] H := hP
    have hD : va_D A [(h0, oX9 b), (b 1, oX0 bt t_lines t_span t_rule t_odds t_wide t_high t_creeks t_houses t_widows t_acts), (b 7, oX3 z0 o_cellso11 o_acrosso12 o_downo13), (b 4, oX6 bn n_field n_houses), (bn 7, .inl (cJ, 13, .inr (.inl n_f7))), (bn 8, .inl (cJ, 13, .inr (.inl n_f8))), (bn 9, .inl (cJ, 13, .inr (.inl n_f9)))] := hD
    refine lv_aload_n hx hb dX9_bridges_26 rfl (lv_at hl 0 rfl) ?_
    refine va_get (D := G) (ci := 9) (v := .ref (b 7)) (C := RX9) (T := TX9) (N := 11) hx hb hts iG_X9 hown hK hP 0 rfl rfl 7 (by decide) (hts _ w_358) (fun _ h9 => h9) rfl dX9_bridges_27 ?_
    refine k_i (wc := [(b 7, oX3 z0 o_cellso11 o_acrosso12 o_downo13)]) (wr := [(h0, oX9 b), (b 1, oX0 bt t_lines t_span t_rule t_odds t_wide t_high t_creeks t_houses t_widows t_acts), (b 4, oX6 bn n_field n_houses), (bn 7, .inl (cJ, 13, .inr (.inl n_f7))), (bn 8, .inl (cJ, 13, .inr (.inl n_f8))), (bn 9, .inl (cJ, 13, .inr (.inl n_f9)))]) hP hD hS hA [2] [0, 1, 3, 4, 5, 6] rfl rfl rfl (by decide) (va_runVN (As := []) (rest := []) ⟨hx, hb, hml, hown, hts⟩ (f_X3_cuts l G cI cJ cZ cB cQ _ (b 7) o_cellso11 o_acrosso12 o_downo13) ⟨va_cnB (host := "WidowRoads") 0 hts (gW w_835) rfl rfl rfl (nz_nw hZ nw_832 rfl) (hts _ w_8) hd_X3_cuts ⟨Nat.le_of_ble_eq_true rfl, Nat.le_of_ble_eq_true rfl⟩, (hts _ w_834), (hts _ wp_50)⟩ (mV hK hZ hP hD [2] rfl rfl [] 2 3 rfl rfl) rfl rfl hl.1 rfl (lv_room (Nat.le_of_ble_eq_true rfl)) dX9_bridges_30 ⟨Nat.le_of_ble_eq_true rfl, Nat.le_of_ble_eq_true rfl⟩) (fun r14 u15 H locs hw16 hP hD hS => ?_)
    obtain ⟨o_acrosso17, o_downo18⟩ := u15
    try dsimp only at hw16
    have hP : va_P G vwCl [(h0, oX9 b), (b 1, oX0 bt t_lines t_span t_rule t_odds t_wide t_high t_creeks t_houses t_widows t_acts), (b 4, oX6 bn n_field n_houses), (bn 7, .inl (cJ, 13, .inr (.inl n_f7))), (bn 8, .inl (cJ, 13, .inr (.inl n_f8))), (bn 9, .inl (cJ, 13, .inr (.inl n_f9))), (b 7, oX3 z0 o_cellso11 o_acrosso17 o_downo18)] H := hP
    have hD : va_D A [(h0, oX9 b), (b 1, oX0 bt t_lines t_span t_rule t_odds t_wide t_high t_creeks t_houses t_widows t_acts), (b 4, oX6 bn n_field n_houses), (bn 7, .inl (cJ, 13, .inr (.inl n_f7))), (bn 8, .inl (cJ, 13, .inr (.inl n_f8))), (bn 9, .inl (cJ, 13, .inr (.inl n_f9))), (b 7, oX3 z0 o_cellso11 o_acrosso17 o_downo18)] := hD
    exact hret _ _ _ _ r14 (o_cellso11, o_acrosso17, o_downo18) hP hD hS dX9_bridges_33 trivial
  · skip
    refine lv_if_ne (tgt := 14) hx hb dX9_bridges_8 (by decide) (fun c19 => absurd (by decide) c19) (fun c19 => ?_)
    refine lv_bipush (v := (-2)) hx hb dX9_bridges_11 (by decide) ?_
    exact hret _ _ _ _ (-2) (k_cells, k_across, k_down) (hP.sub (ws' := [(h0, oX9 b), (b 1, oX0 bt t_lines t_span t_rule t_odds t_wide t_high t_creeks t_houses t_widows t_acts), (b 4, oX6 bn n_field n_houses), (bn 7, .inl (cJ, 13, .inr (.inl n_f7))), (bn 8, .inl (cJ, 13, .inr (.inl n_f8))), (bn 9, .inl (cJ, 13, .inr (.inl n_f9))), (b 7, oX3 z0 k_cells k_across k_down)]) [0, 6, 1, 2, 3, 4, 5] rfl) (hD.sub (ws' := [(h0, oX9 b), (b 1, oX0 bt t_lines t_span t_rule t_odds t_wide t_high t_creeks t_houses t_widows t_acts), (b 4, oX6 bn n_field n_houses), (bn 7, .inl (cJ, 13, .inr (.inl n_f7))), (bn 8, .inl (cJ, 13, .inr (.inl n_f8))), (bn 9, .inl (cJ, 13, .inr (.inl n_f9))), (b 7, oX3 z0 k_cells k_across k_down)]) [0, 6, 1, 2, 3, 4, 5] rfl rfl) hS dX9_bridges_13 trivial
set_option maxHeartbeats 4000000 in
set_option maxRecDepth 100000 in
theorem f_X9_net (l : Launch) (G : va_G) (cI cJ cZ cB cQ : ClassId) (sz : Nat) (h0 : Nat) (p0 : Int32) (p1 : Int32) (b : Nat → Nat) (bt : Nat → Nat) (t_lines : Int32) (t_span : Int32) (t_rule : Int32) (t_odds : Int32) (t_wide : Int32) (t_high : Int32) (t_creeks : Int32) (t_houses : Int32) (t_widows : Int32) (t_acts : Int32) (bn : Nat → Nat) (n_field : Int64) (n_houses : Int32) (n_f7 : Nat → Int64) (n_f8 : Nat → Int64) (n_f9 : Nat → Int64) (k_cells : Int64) (k_across : Int64) (k_down : Int64) (hl_t_span : 0 ≤ t_span.toInt) (hh_t_span : t_span.toInt ≤ 12) (hl_t_rule : 0 ≤ t_rule.toInt) (hh_t_rule : t_rule.toInt ≤ 3) (hl_t_odds : 0 ≤ t_odds.toInt) (hh_t_odds : t_odds.toInt ≤ 10) (hl_t_wide : 0 ≤ t_wide.toInt) (hh_t_wide : t_wide.toInt ≤ 8) (hl_t_high : 0 ≤ t_high.toInt) (hh_t_high : t_high.toInt ≤ 8) (hl_t_creeks : 0 ≤ t_creeks.toInt) (hh_t_creeks : t_creeks.toInt ≤ 12) (hl_t_houses : 0 ≤ t_houses.toInt) (hh_t_houses : t_houses.toInt ≤ 6) (hl_t_widows : 0 ≤ t_widows.toInt) (hh_t_widows : t_widows.toInt ≤ 7) (hl_t_acts : 0 ≤ t_acts.toInt) (hh_t_acts : t_acts.toInt ≤ 30) (hl_n_houses : 0 ≤ n_houses.toInt) (hh_n_houses : n_houses.toInt ≤ 6) : CI l yX9_net (wl_ yX9_net cX9_net 4 (some .int)) ({ frames := 2, cells := 0, slots := 0, locals := 56 } : Room) G (TY cI cJ cZ cB cQ) [.ref h0, .int p0, .int p1] [(h0, oX9 b), (b 1, oX0 bt t_lines t_span t_rule t_odds t_wide t_high t_creeks t_houses t_widows t_acts), (b 4, oX6 bn n_field n_houses), (bn 7, .inl (cJ, 13, .inr (.inl n_f7))), (bn 8, .inl (cJ, 13, .inr (.inl n_f8))), (bn 9, .inl (cJ, 13, .inr (.inl n_f9))), (b 7, oX3 z0 k_cells k_across k_down)] sz (fun (r : Int32) (u : Int64 × Int64 × Int64) => True) (fun u : Int64 × Int64 × Int64 => [(h0, oX9 b), (b 1, oX0 bt t_lines t_span t_rule t_odds t_wide t_high t_creeks t_houses t_widows t_acts), (b 4, oX6 bn n_field n_houses), (bn 7, .inl (cJ, 13, .inr (.inl n_f7))), (bn 8, .inl (cJ, 13, .inr (.inl n_f8))), (bn 9, .inl (cJ, 13, .inr (.inl n_f9))), (b 7, oX3 z0 u.1 u.2.1 u.2.2)]) 0 0 := by
  refine CI.go (cc := cX9_net) (maxL := 4) (ret := (some .int)) (by decide) rfl (Nat.le_of_ble_eq_true rfl) ?_
  intro p e s m below meth c A ls Q hBd hret
  obtain ⟨hx, hb, hr, hml, hts, hown, hlk, hnm, hP, hK, hD, hA, hZ, hl⟩ := hBd
  have hown : s.vm.findClass RX9 = some m.cls := hown
  have hl : lv_has ls 4 [(0, .ref h0), (1, .int p0), (2, .int p1)] := hl
  have hS : va_S A s.heap s.heap [] := va_S.rf
  refine lv_aload_n hx hb dX9_net_0 rfl (lv_at hl 0 rfl) ?_
  refine va_get (D := G) (ci := 9) (v := .ref (b 1)) (C := RX9) (T := TX9) (N := 11) hx hb hts iG_X9 hown hK hP 0 rfl rfl 1 (by decide) (hts _ w_352) (fun _ h9 => h9) rfl dX9_net_1 ?_
  refine lv_iload_n hx hb dX9_net_4 rfl (lv_at hl 1 rfl) ?_
  obtain ⟨v1, ev1⟩ : ∃ y : Int64, p0.toInt64 = y := ⟨_, rfl⟩
  have tv1 : v1.toInt = p0.toInt := ti_wide rfl ev1
  refine lv_i2l (v := v1) hx hb dX9_net_5 ev1 ?_
  refine k_i (wc := [(b 1, oX0 bt t_lines t_span t_rule t_odds t_wide t_high t_creeks t_houses t_widows t_acts)]) (wr := [(h0, oX9 b), (b 4, oX6 bn n_field n_houses), (bn 7, .inl (cJ, 13, .inr (.inl n_f7))), (bn 8, .inl (cJ, 13, .inr (.inl n_f8))), (bn 9, .inl (cJ, 13, .inr (.inl n_f9))), (b 7, oX3 z0 k_cells k_across k_down)]) hP hD hS hA [1] [0, 2, 3, 4, 5, 6] rfl rfl rfl (by decide) (va_runVN (As := [.long v1]) (rest := []) ⟨hx, hb, hml, hown, hts⟩ (f_X0_spotOf l G cI cJ cZ cB cQ _ (b 1) v1 bt t_lines t_span t_rule t_odds t_wide t_high t_creeks t_houses t_widows t_acts hl_t_span hh_t_span hl_t_rule hh_t_rule hl_t_odds hh_t_odds hl_t_wide hh_t_wide hl_t_high hh_t_high hl_t_creeks hh_t_creeks hl_t_houses hh_t_houses hl_t_widows hh_t_widows hl_t_acts hh_t_acts) ⟨va_cnB (host := "WidowRoads") 1 hts (gW w_656) rfl rfl rfl (nz_nw hZ nw_653 rfl) (hts _ w_4) hd_X0_spotOf ⟨Nat.le_of_ble_eq_true rfl, Nat.le_of_ble_eq_true rfl⟩, (hts _ w_655), (hts _ wp_34)⟩ (mV hK hZ hP hD [1] rfl rfl [.long v1] 1 0 rfl rfl) rfl rfl hl.1 rfl (lv_room (Nat.le_of_ble_eq_true rfl)) dX9_net_6 ⟨Nat.le_of_ble_eq_true rfl, Nat.le_of_ble_eq_true rfl⟩) (fun r2 u3 H locs hw4 hP hD hS => ?_)
  try dsimp only at hw4
  have hP : va_P G vwCl [(h0, oX9 b), (b 4, oX6 bn n_field n_houses), (bn 7, .inl (cJ, 13, .inr (.inl n_f7))), (bn 8, .inl (cJ, 13, .inr (.inl n_f8))), (bn 9, .inl (cJ, 13, .inr (.inl n_f9))), (b 7, oX3 z0 k_cells k_across k_down), (b 1, oX0 bt t_lines t_span t_rule t_odds t_wide t_high t_creeks t_houses t_widows t_acts)] H := hP
  have hD : va_D A [(h0, oX9 b), (b 4, oX6 bn n_field n_houses), (bn 7, .inl (cJ, 13, .inr (.inl n_f7))), (bn 8, .inl (cJ, 13, .inr (.inl n_f8))), (bn 9, .inl (cJ, 13, .inr (.inl n_f9))), (b 7, oX3 z0 k_cells k_across k_down), (b 1, oX0 bt t_lines t_span t_rule t_odds t_wide t_high t_creeks t_houses t_widows t_acts)] := hD
  refine lv_istore_n (lv' := [(3, .int r2), (0, .ref h0), (1, .int p0), (2, .int p1)]) hx hb dX9_net_9 rfl hl (by decide) rfl (fun ls hl => ?_)
  refine lv_iload_n hx hb dX9_net_10 rfl (lv_at hl 0 rfl) ?_
  refine lv_iconst (v := (-1)) hx hb dX9_net_11 (by decide) ?_
  refine lv_icmp_eq (tgt := 26) hx hb dX9_net_12 (by decide) (fun c5 => ?_) (fun c5 => ?_)
  · have c5 := i_eq rfl ki_m1 c5
    refine lv_bipush (v := (-2)) hx hb dX9_net_26 (by decide) ?_
    exact hret _ _ _ _ (-2) (k_cells, k_across, k_down) (hP.sub (ws' := [(h0, oX9 b), (b 1, oX0 bt t_lines t_span t_rule t_odds t_wide t_high t_creeks t_houses t_widows t_acts), (b 4, oX6 bn n_field n_houses), (bn 7, .inl (cJ, 13, .inr (.inl n_f7))), (bn 8, .inl (cJ, 13, .inr (.inl n_f8))), (bn 9, .inl (cJ, 13, .inr (.inl n_f9))), (b 7, oX3 z0 k_cells k_across k_down)]) [0, 6, 1, 2, 3, 4, 5] rfl) (hD.sub (ws' := [(h0, oX9 b), (b 1, oX0 bt t_lines t_span t_rule t_odds t_wide t_high t_creeks t_houses t_widows t_acts), (b 4, oX6 bn n_field n_houses), (bn 7, .inl (cJ, 13, .inr (.inl n_f7))), (bn 8, .inl (cJ, 13, .inr (.inl n_f8))), (bn 9, .inl (cJ, 13, .inr (.inl n_f9))), (b 7, oX3 z0 k_cells k_across k_down)]) [0, 6, 1, 2, 3, 4, 5] rfl rfl) hS dX9_net_28 trivial
  · have c5 := i_ne rfl ki_m1 c5
    refine lv_aload_n hx hb dX9_net_15 rfl (lv_at hl 1 rfl) ?_
    refine va_get (D := G) (ci := 9) (v := .ref (b 1)) (C := RX9) (T := TX9) (N := 11) hx hb hts iG_X9 hown hK hP 0 rfl rfl 1 (by decide) (hts _ w_352) (fun _ h9 => h9) rfl dX9_net_16 ?_
    refine lv_iload_n hx hb dX9_net_19 rfl (lv_at hl 3 rfl) ?_
    refine k_i (wc := [(b 1, oX0 bt t_lines t_span t_rule t_odds t_wide t_high t_creeks t_houses t_widows t_acts)]) (wr := [(h0, oX9 b), (b 4, oX6 bn n_field n_houses), (bn 7, .inl (cJ, 13, .inr (.inl n_f7))), (bn 8, .inl (cJ, 13, .inr (.inl n_f8))), (bn 9, .inl (cJ, 13, .inr (.inl n_f9))), (b 7, oX3 z0 k_cells k_across k_down)]) hP hD hS hA [6] [0, 1, 2, 3, 4, 5] rfl rfl rfl (by decide) (va_runVN (As := [.int p1]) (rest := []) ⟨hx, hb, hml, hown, hts⟩ (f_X0_hasYear l G cI cJ cZ cB cQ _ (b 1) p1 p1.toInt bt t_lines t_span t_rule t_odds t_wide t_high t_creeks t_houses t_widows t_acts rfl hl_t_span hh_t_span hl_t_rule hh_t_rule hl_t_odds hh_t_odds hl_t_wide hh_t_wide hl_t_high hh_t_high hl_t_creeks hh_t_creeks hl_t_houses hh_t_houses hl_t_widows hh_t_widows hl_t_acts hh_t_acts) ⟨va_cnB (host := "WidowRoads") 1 hts (gW w_727) rfl rfl rfl (nz_nw hZ nw_724 rfl) (hts _ w_4) hd_X0_hasYear ⟨Nat.le_of_ble_eq_true rfl, Nat.le_of_ble_eq_true rfl⟩, (hts _ w_726), (hts _ wp_39)⟩ (mV hK hZ hP hD [6] rfl rfl [.int p1] 6 0 rfl rfl) rfl rfl hl.1 rfl (lv_room (Nat.le_of_ble_eq_true rfl)) dX9_net_20 ⟨Nat.le_of_ble_eq_true rfl, Nat.le_of_ble_eq_true rfl⟩) (fun r6 u7 H locs hw8 hP hD hS => ?_)
    try dsimp only at hw8
    have hP : va_P G vwCl [(h0, oX9 b), (b 4, oX6 bn n_field n_houses), (bn 7, .inl (cJ, 13, .inr (.inl n_f7))), (bn 8, .inl (cJ, 13, .inr (.inl n_f8))), (bn 9, .inl (cJ, 13, .inr (.inl n_f9))), (b 7, oX3 z0 k_cells k_across k_down), (b 1, oX0 bt t_lines t_span t_rule t_odds t_wide t_high t_creeks t_houses t_widows t_acts)] H := hP
    have hD : va_D A [(h0, oX9 b), (b 4, oX6 bn n_field n_houses), (bn 7, .inl (cJ, 13, .inr (.inl n_f7))), (bn 8, .inl (cJ, 13, .inr (.inl n_f8))), (bn 9, .inl (cJ, 13, .inr (.inl n_f9))), (b 7, oX3 z0 k_cells k_across k_down), (b 1, oX0 bt t_lines t_span t_rule t_odds t_wide t_high t_creeks t_houses t_widows t_acts)] := hD
    rcases hw8 with ⟨rfl, a10, a11⟩ | rfl
    · skip
      refine lv_if_ne (tgt := 29) hx hb dX9_net_23 (by decide) (fun c12 => ?_) (fun c12 => absurd c12 (by decide))
      refine lv_aload_n hx hb dX9_net_29 rfl (lv_at hl 1 rfl) ?_
      refine va_get (D := G) (ci := 9) (v := .ref (b 7)) (C := RX9) (T := TX9) (N := 11) hx hb hts iG_X9 hown hK hP 0 rfl rfl 7 (by decide) (hts _ w_358) (fun _ h9 => h9) rfl dX9_net_30 ?_
      refine lv_aload_n hx hb dX9_net_33 rfl (lv_at hl 1 rfl) ?_
      refine va_get (D := G) (ci := 9) (v := .ref (b 4)) (C := RX9) (T := TX9) (N := 11) hx hb hts iG_X9 hown hK hP 0 rfl rfl 4 (by decide) (hts _ w_355) (fun _ h9 => h9) rfl dX9_net_34 ?_
      refine lv_iload_n hx hb dX9_net_37 rfl (lv_at hl 3 rfl) ?_
      refine k_v (wc := [(b 7, oX3 z0 k_cells k_across k_down), (b 4, oX6 bn n_field n_houses), (bn 7, .inl (cJ, 13, .inr (.inl n_f7))), (bn 8, .inl (cJ, 13, .inr (.inl n_f8))), (bn 9, .inl (cJ, 13, .inr (.inl n_f9)))]) (wr := [(h0, oX9 b), (b 1, oX0 bt t_lines t_span t_rule t_odds t_wide t_high t_creeks t_houses t_widows t_acts)]) hP hD hS hA [5, 1, 2, 3, 4] [0, 6] rfl rfl rfl (by decide) (va_runVN (As := [.ref (b 4), .int p1]) (rest := []) ⟨hx, hb, hml, hown, hts⟩ (f_X3_lay l G cI cJ cZ cB cQ _ (b 7) (b 4) p1 k_cells k_across k_down bn n_field n_houses n_f7 n_f8 n_f9 (by omega) (by omega) hl_n_houses hh_n_houses) ⟨va_cnB (host := "WidowRoads") 2 hts (gW w_781) rfl rfl rfl (nz_nw hZ nw_778 rfl) (hts _ w_8) hd_X3_lay ⟨Nat.le_of_ble_eq_true rfl, Nat.le_of_ble_eq_true rfl⟩, (hts _ w_780), (hts _ wp_45)⟩ (mV hK hZ hP hD [5, 1, 2, 3, 4] rfl rfl [.ref (b 4), .int p1] 5 3 rfl rfl) rfl rfl hl.1 rfl (lv_room (Nat.le_of_ble_eq_true rfl)) dX9_net_38 ⟨Nat.le_of_ble_eq_true rfl, Nat.le_of_ble_eq_true rfl⟩) (fun u14 H locs hw15 hP hD hS => ?_)
      obtain ⟨o_cellso16, o_acrosso17, o_downo18⟩ := u14
      try dsimp only at hw15
      have hP : va_P G vwCl [(h0, oX9 b), (b 1, oX0 bt t_lines t_span t_rule t_odds t_wide t_high t_creeks t_houses t_widows t_acts), (b 7, oX3 z0 o_cellso16 o_acrosso17 o_downo18), (b 4, oX6 bn n_field n_houses), (bn 7, .inl (cJ, 13, .inr (.inl n_f7))), (bn 8, .inl (cJ, 13, .inr (.inl n_f8))), (bn 9, .inl (cJ, 13, .inr (.inl n_f9)))] H := hP
      have hD : va_D A [(h0, oX9 b), (b 1, oX0 bt t_lines t_span t_rule t_odds t_wide t_high t_creeks t_houses t_widows t_acts), (b 7, oX3 z0 o_cellso16 o_acrosso17 o_downo18), (b 4, oX6 bn n_field n_houses), (bn 7, .inl (cJ, 13, .inr (.inl n_f7))), (bn 8, .inl (cJ, 13, .inr (.inl n_f8))), (bn 9, .inl (cJ, 13, .inr (.inl n_f9)))] := hD
      refine lv_aload_n hx hb dX9_net_41 rfl (lv_at hl 1 rfl) ?_
      refine va_get (D := G) (ci := 9) (v := .ref (b 7)) (C := RX9) (T := TX9) (N := 11) hx hb hts iG_X9 hown hK hP 0 rfl rfl 7 (by decide) (hts _ w_358) (fun _ h9 => h9) rfl dX9_net_42 ?_
      refine lv_iload_n hx hb dX9_net_45 rfl (lv_at hl 0 rfl) ?_
      refine k_l (wc := [(b 7, oX3 z0 o_cellso16 o_acrosso17 o_downo18)]) (wr := [(h0, oX9 b), (b 1, oX0 bt t_lines t_span t_rule t_odds t_wide t_high t_creeks t_houses t_widows t_acts), (b 4, oX6 bn n_field n_houses), (bn 7, .inl (cJ, 13, .inr (.inl n_f7))), (bn 8, .inl (cJ, 13, .inr (.inl n_f8))), (bn 9, .inl (cJ, 13, .inr (.inl n_f9)))]) hP hD hS hA [2] [0, 1, 3, 4, 5, 6] rfl rfl rfl (by decide) (va_runVN (As := [.int r2]) (rest := []) ⟨hx, hb, hml, hown, hts⟩ (f_X3_reach l G cI cJ cZ cB cQ _ (b 7) r2 o_cellso16 o_acrosso17 o_downo18) ⟨va_cnB (host := "WidowRoads") 1 hts (gW w_815) rfl rfl rfl (nz_nw hZ nw_840 rfl) (hts _ w_8) hd_X3_reach ⟨Nat.le_of_ble_eq_true rfl, Nat.le_of_ble_eq_true rfl⟩, (hts _ w_814), (hts _ wp_49)⟩ (mV hK hZ hP hD [2] rfl rfl [.int r2] 2 3 rfl rfl) rfl rfl hl.1 rfl (lv_room (Nat.le_of_ble_eq_true rfl)) dX9_net_46 ⟨Nat.le_of_ble_eq_true rfl, Nat.le_of_ble_eq_true rfl⟩) (fun r19 u20 H locs hw21 hP hD hS => ?_)
      try dsimp only at hw21
      have hP : va_P G vwCl [(h0, oX9 b), (b 1, oX0 bt t_lines t_span t_rule t_odds t_wide t_high t_creeks t_houses t_widows t_acts), (b 4, oX6 bn n_field n_houses), (bn 7, .inl (cJ, 13, .inr (.inl n_f7))), (bn 8, .inl (cJ, 13, .inr (.inl n_f8))), (bn 9, .inl (cJ, 13, .inr (.inl n_f9))), (b 7, oX3 z0 o_cellso16 o_acrosso17 o_downo18)] H := hP
      have hD : va_D A [(h0, oX9 b), (b 1, oX0 bt t_lines t_span t_rule t_odds t_wide t_high t_creeks t_houses t_widows t_acts), (b 4, oX6 bn n_field n_houses), (bn 7, .inl (cJ, 13, .inr (.inl n_f7))), (bn 8, .inl (cJ, 13, .inr (.inl n_f8))), (bn 9, .inl (cJ, 13, .inr (.inl n_f9))), (b 7, oX3 z0 o_cellso16 o_acrosso17 o_downo18)] := hD
      refine k_i (wc := []) (wr := [(h0, oX9 b), (b 1, oX0 bt t_lines t_span t_rule t_odds t_wide t_high t_creeks t_houses t_widows t_acts), (b 4, oX6 bn n_field n_houses), (bn 7, .inl (cJ, 13, .inr (.inl n_f7))), (bn 8, .inl (cJ, 13, .inr (.inl n_f8))), (bn 9, .inl (cJ, 13, .inr (.inl n_f9))), (b 7, oX3 z0 o_cellso16 o_acrosso17 o_downo18)]) hP hD hS hA [] [0, 1, 2, 3, 4, 5, 6] rfl rfl rfl (by decide) (va_runS (As := [.long r19]) (rest := []) ⟨hx, hb, hml, hown, hts⟩ (f_J13_bitCount_95d88 l G cI cJ cZ cB cQ _ r19) (va_cwS 1 hts (gS w_639 w_640 w_18 w_641) rfl rfl rfl hd_J13_bitCount_95d88 ⟨Nat.le_of_ble_eq_true rfl, Nat.le_of_ble_eq_true rfl⟩) (mS hK hZ hP hD [] rfl rfl [.long r19]) rfl rfl hl.1 rfl (lv_room (Nat.le_of_ble_eq_true rfl)) dX9_net_49 ⟨Nat.le_of_ble_eq_true rfl, Nat.le_of_ble_eq_true rfl⟩) (fun r22 u23 H locs hw24 hP hD hS => ?_)
      try dsimp only at hw24
      have hP : va_P G vwCl [(h0, oX9 b), (b 1, oX0 bt t_lines t_span t_rule t_odds t_wide t_high t_creeks t_houses t_widows t_acts), (b 4, oX6 bn n_field n_houses), (bn 7, .inl (cJ, 13, .inr (.inl n_f7))), (bn 8, .inl (cJ, 13, .inr (.inl n_f8))), (bn 9, .inl (cJ, 13, .inr (.inl n_f9))), (b 7, oX3 z0 o_cellso16 o_acrosso17 o_downo18)] H := hP
      have hD : va_D A [(h0, oX9 b), (b 1, oX0 bt t_lines t_span t_rule t_odds t_wide t_high t_creeks t_houses t_widows t_acts), (b 4, oX6 bn n_field n_houses), (bn 7, .inl (cJ, 13, .inr (.inl n_f7))), (bn 8, .inl (cJ, 13, .inr (.inl n_f8))), (bn 9, .inl (cJ, 13, .inr (.inl n_f9))), (b 7, oX3 z0 o_cellso16 o_acrosso17 o_downo18)] := hD
      obtain ⟨w25, w26⟩ : 0 ≤ r22.toInt ∧ r22.toInt ≤ 127 := hw24
      exact hret _ _ _ _ r22 (o_cellso16, o_acrosso17, o_downo18) hP hD hS dX9_net_52 trivial
    · skip
      refine lv_if_ne (tgt := 29) hx hb dX9_net_23 (by decide) (fun c27 => absurd (by decide) c27) (fun c27 => ?_)
      refine lv_bipush (v := (-2)) hx hb dX9_net_26 (by decide) ?_
      exact hret _ _ _ _ (-2) (k_cells, k_across, k_down) (hP.sub (ws' := [(h0, oX9 b), (b 1, oX0 bt t_lines t_span t_rule t_odds t_wide t_high t_creeks t_houses t_widows t_acts), (b 4, oX6 bn n_field n_houses), (bn 7, .inl (cJ, 13, .inr (.inl n_f7))), (bn 8, .inl (cJ, 13, .inr (.inl n_f8))), (bn 9, .inl (cJ, 13, .inr (.inl n_f9))), (b 7, oX3 z0 k_cells k_across k_down)]) [0, 6, 1, 2, 3, 4, 5] rfl) (hD.sub (ws' := [(h0, oX9 b), (b 1, oX0 bt t_lines t_span t_rule t_odds t_wide t_high t_creeks t_houses t_widows t_acts), (b 4, oX6 bn n_field n_houses), (bn 7, .inl (cJ, 13, .inr (.inl n_f7))), (bn 8, .inl (cJ, 13, .inr (.inl n_f8))), (bn 9, .inl (cJ, 13, .inr (.inl n_f9))), (b 7, oX3 z0 k_cells k_across k_down)]) [0, 6, 1, 2, 3, 4, 5] rfl rfl) hS dX9_net_28 trivial
set_option maxHeartbeats 4000000 in
set_option maxRecDepth 100000 in
theorem f_X9_way (l : Launch) (G : va_G) (cI cJ cZ cB cQ : ClassId) (sz : Nat) (h0 : Nat) (p0 : Int32) (p1 : Int32) (p2 : Int32) (b : Nat → Nat) (bt : Nat → Nat) (t_lines : Int32) (t_span : Int32) (t_rule : Int32) (t_odds : Int32) (t_wide : Int32) (t_high : Int32) (t_creeks : Int32) (t_houses : Int32) (t_widows : Int32) (t_acts : Int32) (bn : Nat → Nat) (n_field : Int64) (n_houses : Int32) (n_f7 : Nat → Int64) (n_f8 : Nat → Int64) (n_f9 : Nat → Int64) (k_cells : Int64) (k_across : Int64) (k_down : Int64) (hl_t_span : 0 ≤ t_span.toInt) (hh_t_span : t_span.toInt ≤ 12) (hl_t_rule : 0 ≤ t_rule.toInt) (hh_t_rule : t_rule.toInt ≤ 3) (hl_t_odds : 0 ≤ t_odds.toInt) (hh_t_odds : t_odds.toInt ≤ 10) (hl_t_wide : 0 ≤ t_wide.toInt) (hh_t_wide : t_wide.toInt ≤ 8) (hl_t_high : 0 ≤ t_high.toInt) (hh_t_high : t_high.toInt ≤ 8) (hl_t_creeks : 0 ≤ t_creeks.toInt) (hh_t_creeks : t_creeks.toInt ≤ 12) (hl_t_houses : 0 ≤ t_houses.toInt) (hh_t_houses : t_houses.toInt ≤ 6) (hl_t_widows : 0 ≤ t_widows.toInt) (hh_t_widows : t_widows.toInt ≤ 7) (hl_t_acts : 0 ≤ t_acts.toInt) (hh_t_acts : t_acts.toInt ≤ 30) (hl_n_houses : 0 ≤ n_houses.toInt) (hh_n_houses : n_houses.toInt ≤ 6) : CI l yX9_way (wl_ yX9_way cX9_way 6 (some .int)) ({ frames := 2, cells := 0, slots := 0, locals := 55 } : Room) G (TY cI cJ cZ cB cQ) [.ref h0, .int p0, .int p1, .int p2] [(h0, oX9 b), (b 1, oX0 bt t_lines t_span t_rule t_odds t_wide t_high t_creeks t_houses t_widows t_acts), (b 4, oX6 bn n_field n_houses), (bn 7, .inl (cJ, 13, .inr (.inl n_f7))), (bn 8, .inl (cJ, 13, .inr (.inl n_f8))), (bn 9, .inl (cJ, 13, .inr (.inl n_f9))), (b 7, oX3 z0 k_cells k_across k_down)] sz (fun (r : Int32) (u : Int64 × Int64 × Int64) => True) (fun u : Int64 × Int64 × Int64 => [(h0, oX9 b), (b 1, oX0 bt t_lines t_span t_rule t_odds t_wide t_high t_creeks t_houses t_widows t_acts), (b 4, oX6 bn n_field n_houses), (bn 7, .inl (cJ, 13, .inr (.inl n_f7))), (bn 8, .inl (cJ, 13, .inr (.inl n_f8))), (bn 9, .inl (cJ, 13, .inr (.inl n_f9))), (b 7, oX3 z0 u.1 u.2.1 u.2.2)]) 0 0 := by
  refine CI.go (cc := cX9_way) (maxL := 6) (ret := (some .int)) (by decide) rfl (Nat.le_of_ble_eq_true rfl) ?_
  intro p e s m below meth c A ls Q hBd hret
  obtain ⟨hx, hb, hr, hml, hts, hown, hlk, hnm, hP, hK, hD, hA, hZ, hl⟩ := hBd
  have hown : s.vm.findClass RX9 = some m.cls := hown
  have hl : lv_has ls 6 [(0, .ref h0), (1, .int p0), (2, .int p1), (3, .int p2)] := hl
  have hS : va_S A s.heap s.heap [] := va_S.rf
  refine lv_aload_n hx hb dX9_way_0 rfl (lv_at hl 0 rfl) ?_
  refine va_get (D := G) (ci := 9) (v := .ref (b 1)) (C := RX9) (T := TX9) (N := 11) hx hb hts iG_X9 hown hK hP 0 rfl rfl 1 (by decide) (hts _ w_352) (fun _ h9 => h9) rfl dX9_way_1 ?_
  refine lv_iload_n hx hb dX9_way_4 rfl (lv_at hl 1 rfl) ?_
  obtain ⟨v1, ev1⟩ : ∃ y : Int64, p0.toInt64 = y := ⟨_, rfl⟩
  have tv1 : v1.toInt = p0.toInt := ti_wide rfl ev1
  refine lv_i2l (v := v1) hx hb dX9_way_5 ev1 ?_
  refine k_i (wc := [(b 1, oX0 bt t_lines t_span t_rule t_odds t_wide t_high t_creeks t_houses t_widows t_acts)]) (wr := [(h0, oX9 b), (b 4, oX6 bn n_field n_houses), (bn 7, .inl (cJ, 13, .inr (.inl n_f7))), (bn 8, .inl (cJ, 13, .inr (.inl n_f8))), (bn 9, .inl (cJ, 13, .inr (.inl n_f9))), (b 7, oX3 z0 k_cells k_across k_down)]) hP hD hS hA [1] [0, 2, 3, 4, 5, 6] rfl rfl rfl (by decide) (va_runVN (As := [.long v1]) (rest := []) ⟨hx, hb, hml, hown, hts⟩ (f_X0_spotOf l G cI cJ cZ cB cQ _ (b 1) v1 bt t_lines t_span t_rule t_odds t_wide t_high t_creeks t_houses t_widows t_acts hl_t_span hh_t_span hl_t_rule hh_t_rule hl_t_odds hh_t_odds hl_t_wide hh_t_wide hl_t_high hh_t_high hl_t_creeks hh_t_creeks hl_t_houses hh_t_houses hl_t_widows hh_t_widows hl_t_acts hh_t_acts) ⟨va_cnB (host := "WidowRoads") 1 hts (gW w_656) rfl rfl rfl (nz_nw hZ nw_653 rfl) (hts _ w_4) hd_X0_spotOf ⟨Nat.le_of_ble_eq_true rfl, Nat.le_of_ble_eq_true rfl⟩, (hts _ w_655), (hts _ wp_34)⟩ (mV hK hZ hP hD [1] rfl rfl [.long v1] 1 0 rfl rfl) rfl rfl hl.1 rfl (lv_room (Nat.le_of_ble_eq_true rfl)) dX9_way_6 ⟨Nat.le_of_ble_eq_true rfl, Nat.le_of_ble_eq_true rfl⟩) (fun r2 u3 H locs hw4 hP hD hS => ?_)
  try dsimp only at hw4
  have hP : va_P G vwCl [(h0, oX9 b), (b 4, oX6 bn n_field n_houses), (bn 7, .inl (cJ, 13, .inr (.inl n_f7))), (bn 8, .inl (cJ, 13, .inr (.inl n_f8))), (bn 9, .inl (cJ, 13, .inr (.inl n_f9))), (b 7, oX3 z0 k_cells k_across k_down), (b 1, oX0 bt t_lines t_span t_rule t_odds t_wide t_high t_creeks t_houses t_widows t_acts)] H := hP
  have hD : va_D A [(h0, oX9 b), (b 4, oX6 bn n_field n_houses), (bn 7, .inl (cJ, 13, .inr (.inl n_f7))), (bn 8, .inl (cJ, 13, .inr (.inl n_f8))), (bn 9, .inl (cJ, 13, .inr (.inl n_f9))), (b 7, oX3 z0 k_cells k_across k_down), (b 1, oX0 bt t_lines t_span t_rule t_odds t_wide t_high t_creeks t_houses t_widows t_acts)] := hD
  refine lv_istore (lv' := [(4, .int r2), (0, .ref h0), (1, .int p0), (2, .int p1), (3, .int p2)]) hx hb dX9_way_9 hl (by decide) rfl (fun ls hl => ?_)
  refine lv_aload_n hx hb dX9_way_11 rfl (lv_at hl 1 rfl) ?_
  refine va_get (D := G) (ci := 9) (v := .ref (b 1)) (C := RX9) (T := TX9) (N := 11) hx hb hts iG_X9 hown hK hP 0 rfl rfl 1 (by decide) (hts _ w_352) (fun _ h9 => h9) rfl dX9_way_12 ?_
  refine lv_iload_n hx hb dX9_way_15 rfl (lv_at hl 3 rfl) ?_
  obtain ⟨v5, ev5⟩ : ∃ y : Int64, p1.toInt64 = y := ⟨_, rfl⟩
  have tv5 : v5.toInt = p1.toInt := ti_wide rfl ev5
  refine lv_i2l (v := v5) hx hb dX9_way_16 ev5 ?_
  refine k_i (wc := [(b 1, oX0 bt t_lines t_span t_rule t_odds t_wide t_high t_creeks t_houses t_widows t_acts)]) (wr := [(h0, oX9 b), (b 4, oX6 bn n_field n_houses), (bn 7, .inl (cJ, 13, .inr (.inl n_f7))), (bn 8, .inl (cJ, 13, .inr (.inl n_f8))), (bn 9, .inl (cJ, 13, .inr (.inl n_f9))), (b 7, oX3 z0 k_cells k_across k_down)]) hP hD hS hA [6] [0, 1, 2, 3, 4, 5] rfl rfl rfl (by decide) (va_runVN (As := [.long v5]) (rest := []) ⟨hx, hb, hml, hown, hts⟩ (f_X0_spotOf l G cI cJ cZ cB cQ _ (b 1) v5 bt t_lines t_span t_rule t_odds t_wide t_high t_creeks t_houses t_widows t_acts hl_t_span hh_t_span hl_t_rule hh_t_rule hl_t_odds hh_t_odds hl_t_wide hh_t_wide hl_t_high hh_t_high hl_t_creeks hh_t_creeks hl_t_houses hh_t_houses hl_t_widows hh_t_widows hl_t_acts hh_t_acts) ⟨va_cnB (host := "WidowRoads") 1 hts (gW w_656) rfl rfl rfl (nz_nw hZ nw_653 rfl) (hts _ w_4) hd_X0_spotOf ⟨Nat.le_of_ble_eq_true rfl, Nat.le_of_ble_eq_true rfl⟩, (hts _ w_655), (hts _ wp_34)⟩ (mV hK hZ hP hD [6] rfl rfl [.long v5] 6 0 rfl rfl) rfl rfl hl.1 rfl (lv_room (Nat.le_of_ble_eq_true rfl)) dX9_way_17 ⟨Nat.le_of_ble_eq_true rfl, Nat.le_of_ble_eq_true rfl⟩) (fun r6 u7 H locs hw8 hP hD hS => ?_)
  try dsimp only at hw8
  have hP : va_P G vwCl [(h0, oX9 b), (b 4, oX6 bn n_field n_houses), (bn 7, .inl (cJ, 13, .inr (.inl n_f7))), (bn 8, .inl (cJ, 13, .inr (.inl n_f8))), (bn 9, .inl (cJ, 13, .inr (.inl n_f9))), (b 7, oX3 z0 k_cells k_across k_down), (b 1, oX0 bt t_lines t_span t_rule t_odds t_wide t_high t_creeks t_houses t_widows t_acts)] H := hP
  have hD : va_D A [(h0, oX9 b), (b 4, oX6 bn n_field n_houses), (bn 7, .inl (cJ, 13, .inr (.inl n_f7))), (bn 8, .inl (cJ, 13, .inr (.inl n_f8))), (bn 9, .inl (cJ, 13, .inr (.inl n_f9))), (b 7, oX3 z0 k_cells k_across k_down), (b 1, oX0 bt t_lines t_span t_rule t_odds t_wide t_high t_creeks t_houses t_widows t_acts)] := hD
  refine lv_istore (lv' := [(5, .int r6), (4, .int r2), (0, .ref h0), (1, .int p0), (2, .int p1), (3, .int p2)]) hx hb dX9_way_20 hl (by decide) rfl (fun ls hl => ?_)
  refine lv_iload hx hb dX9_way_22 (lv_at hl 1 rfl) ?_
  refine lv_iconst (v := (-1)) hx hb dX9_way_24 (by decide) ?_
  refine lv_icmp_eq (tgt := 45) hx hb dX9_way_25 (by decide) (fun c9 => ?_) (fun c9 => ?_)
  · have c9 := i_eq rfl ki_m1 c9
    refine lv_bipush (v := (-2)) hx hb dX9_way_45 (by decide) ?_
    exact hret _ _ _ _ (-2) (k_cells, k_across, k_down) (hP.sub (ws' := [(h0, oX9 b), (b 1, oX0 bt t_lines t_span t_rule t_odds t_wide t_high t_creeks t_houses t_widows t_acts), (b 4, oX6 bn n_field n_houses), (bn 7, .inl (cJ, 13, .inr (.inl n_f7))), (bn 8, .inl (cJ, 13, .inr (.inl n_f8))), (bn 9, .inl (cJ, 13, .inr (.inl n_f9))), (b 7, oX3 z0 k_cells k_across k_down)]) [0, 6, 1, 2, 3, 4, 5] rfl) (hD.sub (ws' := [(h0, oX9 b), (b 1, oX0 bt t_lines t_span t_rule t_odds t_wide t_high t_creeks t_houses t_widows t_acts), (b 4, oX6 bn n_field n_houses), (bn 7, .inl (cJ, 13, .inr (.inl n_f7))), (bn 8, .inl (cJ, 13, .inr (.inl n_f8))), (bn 9, .inl (cJ, 13, .inr (.inl n_f9))), (b 7, oX3 z0 k_cells k_across k_down)]) [0, 6, 1, 2, 3, 4, 5] rfl rfl) hS dX9_way_47 trivial
  · have c9 := i_ne rfl ki_m1 c9
    refine lv_iload hx hb dX9_way_28 (lv_at hl 0 rfl) ?_
    refine lv_iconst (v := (-1)) hx hb dX9_way_30 (by decide) ?_
    refine lv_icmp_eq (tgt := 45) hx hb dX9_way_31 (by decide) (fun c10 => ?_) (fun c10 => ?_)
    · have c10 := i_eq rfl ki_m1 c10
      refine lv_bipush (v := (-2)) hx hb dX9_way_45 (by decide) ?_
      exact hret _ _ _ _ (-2) (k_cells, k_across, k_down) (hP.sub (ws' := [(h0, oX9 b), (b 1, oX0 bt t_lines t_span t_rule t_odds t_wide t_high t_creeks t_houses t_widows t_acts), (b 4, oX6 bn n_field n_houses), (bn 7, .inl (cJ, 13, .inr (.inl n_f7))), (bn 8, .inl (cJ, 13, .inr (.inl n_f8))), (bn 9, .inl (cJ, 13, .inr (.inl n_f9))), (b 7, oX3 z0 k_cells k_across k_down)]) [0, 6, 1, 2, 3, 4, 5] rfl) (hD.sub (ws' := [(h0, oX9 b), (b 1, oX0 bt t_lines t_span t_rule t_odds t_wide t_high t_creeks t_houses t_widows t_acts), (b 4, oX6 bn n_field n_houses), (bn 7, .inl (cJ, 13, .inr (.inl n_f7))), (bn 8, .inl (cJ, 13, .inr (.inl n_f8))), (bn 9, .inl (cJ, 13, .inr (.inl n_f9))), (b 7, oX3 z0 k_cells k_across k_down)]) [0, 6, 1, 2, 3, 4, 5] rfl rfl) hS dX9_way_47 trivial
    · have c10 := i_ne rfl ki_m1 c10
      refine lv_aload_n hx hb dX9_way_34 rfl (lv_at hl 2 rfl) ?_
      refine va_get (D := G) (ci := 9) (v := .ref (b 1)) (C := RX9) (T := TX9) (N := 11) hx hb hts iG_X9 hown hK hP 0 rfl rfl 1 (by decide) (hts _ w_352) (fun _ h9 => h9) rfl dX9_way_35 ?_
      refine lv_iload_n hx hb dX9_way_38 rfl (lv_at hl 5 rfl) ?_
      refine k_i (wc := [(b 1, oX0 bt t_lines t_span t_rule t_odds t_wide t_high t_creeks t_houses t_widows t_acts)]) (wr := [(h0, oX9 b), (b 4, oX6 bn n_field n_houses), (bn 7, .inl (cJ, 13, .inr (.inl n_f7))), (bn 8, .inl (cJ, 13, .inr (.inl n_f8))), (bn 9, .inl (cJ, 13, .inr (.inl n_f9))), (b 7, oX3 z0 k_cells k_across k_down)]) hP hD hS hA [6] [0, 1, 2, 3, 4, 5] rfl rfl rfl (by decide) (va_runVN (As := [.int p2]) (rest := []) ⟨hx, hb, hml, hown, hts⟩ (f_X0_hasYear l G cI cJ cZ cB cQ _ (b 1) p2 p2.toInt bt t_lines t_span t_rule t_odds t_wide t_high t_creeks t_houses t_widows t_acts rfl hl_t_span hh_t_span hl_t_rule hh_t_rule hl_t_odds hh_t_odds hl_t_wide hh_t_wide hl_t_high hh_t_high hl_t_creeks hh_t_creeks hl_t_houses hh_t_houses hl_t_widows hh_t_widows hl_t_acts hh_t_acts) ⟨va_cnB (host := "WidowRoads") 1 hts (gW w_727) rfl rfl rfl (nz_nw hZ nw_724 rfl) (hts _ w_4) hd_X0_hasYear ⟨Nat.le_of_ble_eq_true rfl, Nat.le_of_ble_eq_true rfl⟩, (hts _ w_726), (hts _ wp_39)⟩ (mV hK hZ hP hD [6] rfl rfl [.int p2] 6 0 rfl rfl) rfl rfl hl.1 rfl (lv_room (Nat.le_of_ble_eq_true rfl)) dX9_way_39 ⟨Nat.le_of_ble_eq_true rfl, Nat.le_of_ble_eq_true rfl⟩) (fun r11 u12 H locs hw13 hP hD hS => ?_)
      try dsimp only at hw13
      have hP : va_P G vwCl [(h0, oX9 b), (b 4, oX6 bn n_field n_houses), (bn 7, .inl (cJ, 13, .inr (.inl n_f7))), (bn 8, .inl (cJ, 13, .inr (.inl n_f8))), (bn 9, .inl (cJ, 13, .inr (.inl n_f9))), (b 7, oX3 z0 k_cells k_across k_down), (b 1, oX0 bt t_lines t_span t_rule t_odds t_wide t_high t_creeks t_houses t_widows t_acts)] H := hP
      have hD : va_D A [(h0, oX9 b), (b 4, oX6 bn n_field n_houses), (bn 7, .inl (cJ, 13, .inr (.inl n_f7))), (bn 8, .inl (cJ, 13, .inr (.inl n_f8))), (bn 9, .inl (cJ, 13, .inr (.inl n_f9))), (b 7, oX3 z0 k_cells k_across k_down), (b 1, oX0 bt t_lines t_span t_rule t_odds t_wide t_high t_creeks t_houses t_widows t_acts)] := hD
      rcases hw13 with ⟨rfl, a15, a16⟩ | rfl
      · skip
        refine lv_if_ne (tgt := 48) hx hb dX9_way_42 (by decide) (fun c17 => ?_) (fun c17 => absurd c17 (by decide))
        refine lv_aload_n hx hb dX9_way_48 rfl (lv_at hl 2 rfl) ?_
        refine va_get (D := G) (ci := 9) (v := .ref (b 7)) (C := RX9) (T := TX9) (N := 11) hx hb hts iG_X9 hown hK hP 0 rfl rfl 7 (by decide) (hts _ w_358) (fun _ h9 => h9) rfl dX9_way_49 ?_
        refine lv_aload_n hx hb dX9_way_52 rfl (lv_at hl 2 rfl) ?_
        refine va_get (D := G) (ci := 9) (v := .ref (b 4)) (C := RX9) (T := TX9) (N := 11) hx hb hts iG_X9 hown hK hP 0 rfl rfl 4 (by decide) (hts _ w_355) (fun _ h9 => h9) rfl dX9_way_53 ?_
        refine lv_iload_n hx hb dX9_way_56 rfl (lv_at hl 5 rfl) ?_
        refine k_v (wc := [(b 7, oX3 z0 k_cells k_across k_down), (b 4, oX6 bn n_field n_houses), (bn 7, .inl (cJ, 13, .inr (.inl n_f7))), (bn 8, .inl (cJ, 13, .inr (.inl n_f8))), (bn 9, .inl (cJ, 13, .inr (.inl n_f9)))]) (wr := [(h0, oX9 b), (b 1, oX0 bt t_lines t_span t_rule t_odds t_wide t_high t_creeks t_houses t_widows t_acts)]) hP hD hS hA [5, 1, 2, 3, 4] [0, 6] rfl rfl rfl (by decide) (va_runVN (As := [.ref (b 4), .int p2]) (rest := []) ⟨hx, hb, hml, hown, hts⟩ (f_X3_lay l G cI cJ cZ cB cQ _ (b 7) (b 4) p2 k_cells k_across k_down bn n_field n_houses n_f7 n_f8 n_f9 (by omega) (by omega) hl_n_houses hh_n_houses) ⟨va_cnB (host := "WidowRoads") 2 hts (gW w_781) rfl rfl rfl (nz_nw hZ nw_778 rfl) (hts _ w_8) hd_X3_lay ⟨Nat.le_of_ble_eq_true rfl, Nat.le_of_ble_eq_true rfl⟩, (hts _ w_780), (hts _ wp_45)⟩ (mV hK hZ hP hD [5, 1, 2, 3, 4] rfl rfl [.ref (b 4), .int p2] 5 3 rfl rfl) rfl rfl hl.1 rfl (lv_room (Nat.le_of_ble_eq_true rfl)) dX9_way_57 ⟨Nat.le_of_ble_eq_true rfl, Nat.le_of_ble_eq_true rfl⟩) (fun u19 H locs hw20 hP hD hS => ?_)
        obtain ⟨o_cellso21, o_acrosso22, o_downo23⟩ := u19
        try dsimp only at hw20
        have hP : va_P G vwCl [(h0, oX9 b), (b 1, oX0 bt t_lines t_span t_rule t_odds t_wide t_high t_creeks t_houses t_widows t_acts), (b 7, oX3 z0 o_cellso21 o_acrosso22 o_downo23), (b 4, oX6 bn n_field n_houses), (bn 7, .inl (cJ, 13, .inr (.inl n_f7))), (bn 8, .inl (cJ, 13, .inr (.inl n_f8))), (bn 9, .inl (cJ, 13, .inr (.inl n_f9)))] H := hP
        have hD : va_D A [(h0, oX9 b), (b 1, oX0 bt t_lines t_span t_rule t_odds t_wide t_high t_creeks t_houses t_widows t_acts), (b 7, oX3 z0 o_cellso21 o_acrosso22 o_downo23), (b 4, oX6 bn n_field n_houses), (bn 7, .inl (cJ, 13, .inr (.inl n_f7))), (bn 8, .inl (cJ, 13, .inr (.inl n_f8))), (bn 9, .inl (cJ, 13, .inr (.inl n_f9)))] := hD
        refine lv_aload_n hx hb dX9_way_60 rfl (lv_at hl 2 rfl) ?_
        refine va_get (D := G) (ci := 9) (v := .ref (b 7)) (C := RX9) (T := TX9) (N := 11) hx hb hts iG_X9 hown hK hP 0 rfl rfl 7 (by decide) (hts _ w_358) (fun _ h9 => h9) rfl dX9_way_61 ?_
        refine lv_iload hx hb dX9_way_64 (lv_at hl 1 rfl) ?_
        refine lv_iload hx hb dX9_way_66 (lv_at hl 0 rfl) ?_
        refine k_i (wc := [(b 7, oX3 z0 o_cellso21 o_acrosso22 o_downo23)]) (wr := [(h0, oX9 b), (b 1, oX0 bt t_lines t_span t_rule t_odds t_wide t_high t_creeks t_houses t_widows t_acts), (b 4, oX6 bn n_field n_houses), (bn 7, .inl (cJ, 13, .inr (.inl n_f7))), (bn 8, .inl (cJ, 13, .inr (.inl n_f8))), (bn 9, .inl (cJ, 13, .inr (.inl n_f9)))]) hP hD hS hA [2] [0, 1, 3, 4, 5, 6] rfl rfl rfl (by decide) (va_runVN (As := [.int r2, .int r6]) (rest := []) ⟨hx, hb, hml, hown, hts⟩ (f_X3_distance l G cI cJ cZ cB cQ _ (b 7) r2 r6 o_cellso21 o_acrosso22 o_downo23) ⟨va_cnB (host := "WidowRoads") 2 hts (gW w_750) rfl rfl rfl (nz_nw hZ nw_747 rfl) (hts _ w_8) hd_X3_distance ⟨Nat.le_of_ble_eq_true rfl, Nat.le_of_ble_eq_true rfl⟩, (hts _ w_749), (hts _ wp_42)⟩ (mV hK hZ hP hD [2] rfl rfl [.int r2, .int r6] 2 3 rfl rfl) rfl rfl hl.1 rfl (lv_room (Nat.le_of_ble_eq_true rfl)) dX9_way_68 ⟨Nat.le_of_ble_eq_true rfl, Nat.le_of_ble_eq_true rfl⟩) (fun r24 u25 H locs hw26 hP hD hS => ?_)
        try dsimp only at hw26
        have hP : va_P G vwCl [(h0, oX9 b), (b 1, oX0 bt t_lines t_span t_rule t_odds t_wide t_high t_creeks t_houses t_widows t_acts), (b 4, oX6 bn n_field n_houses), (bn 7, .inl (cJ, 13, .inr (.inl n_f7))), (bn 8, .inl (cJ, 13, .inr (.inl n_f8))), (bn 9, .inl (cJ, 13, .inr (.inl n_f9))), (b 7, oX3 z0 o_cellso21 o_acrosso22 o_downo23)] H := hP
        have hD : va_D A [(h0, oX9 b), (b 1, oX0 bt t_lines t_span t_rule t_odds t_wide t_high t_creeks t_houses t_widows t_acts), (b 4, oX6 bn n_field n_houses), (bn 7, .inl (cJ, 13, .inr (.inl n_f7))), (bn 8, .inl (cJ, 13, .inr (.inl n_f8))), (bn 9, .inl (cJ, 13, .inr (.inl n_f9))), (b 7, oX3 z0 o_cellso21 o_acrosso22 o_downo23)] := hD
        exact hret _ _ _ _ r24 (o_cellso21, o_acrosso22, o_downo23) hP hD hS dX9_way_71 trivial
      · skip
        refine lv_if_ne (tgt := 48) hx hb dX9_way_42 (by decide) (fun c27 => absurd (by decide) c27) (fun c27 => ?_)
        refine lv_bipush (v := (-2)) hx hb dX9_way_45 (by decide) ?_
        exact hret _ _ _ _ (-2) (k_cells, k_across, k_down) (hP.sub (ws' := [(h0, oX9 b), (b 1, oX0 bt t_lines t_span t_rule t_odds t_wide t_high t_creeks t_houses t_widows t_acts), (b 4, oX6 bn n_field n_houses), (bn 7, .inl (cJ, 13, .inr (.inl n_f7))), (bn 8, .inl (cJ, 13, .inr (.inl n_f8))), (bn 9, .inl (cJ, 13, .inr (.inl n_f9))), (b 7, oX3 z0 k_cells k_across k_down)]) [0, 6, 1, 2, 3, 4, 5] rfl) (hD.sub (ws' := [(h0, oX9 b), (b 1, oX0 bt t_lines t_span t_rule t_odds t_wide t_high t_creeks t_houses t_widows t_acts), (b 4, oX6 bn n_field n_houses), (bn 7, .inl (cJ, 13, .inr (.inl n_f7))), (bn 8, .inl (cJ, 13, .inr (.inl n_f8))), (bn 9, .inl (cJ, 13, .inr (.inl n_f9))), (b 7, oX3 z0 k_cells k_across k_down)]) [0, 6, 1, 2, 3, 4, 5] rfl rfl) hS dX9_way_47 trivial
set_option maxHeartbeats 4000000 in
set_option maxRecDepth 100000 in
theorem f_X9_farthest (l : Launch) (G : va_G) (cI cJ cZ cB cQ : ClassId) (sz : Nat) (h0 : Nat) (p0 : Int32) (p1 : Int32) (b : Nat → Nat) (bt : Nat → Nat) (t_lines : Int32) (t_span : Int32) (t_rule : Int32) (t_odds : Int32) (t_wide : Int32) (t_high : Int32) (t_creeks : Int32) (t_houses : Int32) (t_widows : Int32) (t_acts : Int32) (bn : Nat → Nat) (n_field : Int64) (n_houses : Int32) (n_f7 : Nat → Int64) (n_f8 : Nat → Int64) (n_f9 : Nat → Int64) (k_cells : Int64) (k_across : Int64) (k_down : Int64) (hl_t_span : 0 ≤ t_span.toInt) (hh_t_span : t_span.toInt ≤ 12) (hl_t_rule : 0 ≤ t_rule.toInt) (hh_t_rule : t_rule.toInt ≤ 3) (hl_t_odds : 0 ≤ t_odds.toInt) (hh_t_odds : t_odds.toInt ≤ 10) (hl_t_wide : 0 ≤ t_wide.toInt) (hh_t_wide : t_wide.toInt ≤ 8) (hl_t_high : 0 ≤ t_high.toInt) (hh_t_high : t_high.toInt ≤ 8) (hl_t_creeks : 0 ≤ t_creeks.toInt) (hh_t_creeks : t_creeks.toInt ≤ 12) (hl_t_houses : 0 ≤ t_houses.toInt) (hh_t_houses : t_houses.toInt ≤ 6) (hl_t_widows : 0 ≤ t_widows.toInt) (hh_t_widows : t_widows.toInt ≤ 7) (hl_t_acts : 0 ≤ t_acts.toInt) (hh_t_acts : t_acts.toInt ≤ 30) (hl_n_houses : 0 ≤ n_houses.toInt) (hh_n_houses : n_houses.toInt ≤ 6) : CI l yX9_farthest (wl_ yX9_farthest cX9_farthest 4 (some .int)) ({ frames := 3, cells := 0, slots := 0, locals := 70 } : Room) G (TY cI cJ cZ cB cQ) [.ref h0, .int p0, .int p1] [(h0, oX9 b), (b 1, oX0 bt t_lines t_span t_rule t_odds t_wide t_high t_creeks t_houses t_widows t_acts), (b 4, oX6 bn n_field n_houses), (bn 7, .inl (cJ, 13, .inr (.inl n_f7))), (bn 8, .inl (cJ, 13, .inr (.inl n_f8))), (bn 9, .inl (cJ, 13, .inr (.inl n_f9))), (b 7, oX3 z0 k_cells k_across k_down)] sz (fun (r : Int32) (u : Int64 × Int64 × Int64) => True) (fun u : Int64 × Int64 × Int64 => [(h0, oX9 b), (b 1, oX0 bt t_lines t_span t_rule t_odds t_wide t_high t_creeks t_houses t_widows t_acts), (b 4, oX6 bn n_field n_houses), (bn 7, .inl (cJ, 13, .inr (.inl n_f7))), (bn 8, .inl (cJ, 13, .inr (.inl n_f8))), (bn 9, .inl (cJ, 13, .inr (.inl n_f9))), (b 7, oX3 z0 u.1 u.2.1 u.2.2)]) 0 0 := by
  refine CI.go (cc := cX9_farthest) (maxL := 4) (ret := (some .int)) (by decide) rfl (Nat.le_of_ble_eq_true rfl) ?_
  intro p e s m below meth c A ls Q hBd hret
  obtain ⟨hx, hb, hr, hml, hts, hown, hlk, hnm, hP, hK, hD, hA, hZ, hl⟩ := hBd
  have hown : s.vm.findClass RX9 = some m.cls := hown
  have hl : lv_has ls 4 [(0, .ref h0), (1, .int p0), (2, .int p1)] := hl
  have hS : va_S A s.heap s.heap [] := va_S.rf
  refine lv_aload_n hx hb dX9_farthest_0 rfl (lv_at hl 0 rfl) ?_
  refine va_get (D := G) (ci := 9) (v := .ref (b 1)) (C := RX9) (T := TX9) (N := 11) hx hb hts iG_X9 hown hK hP 0 rfl rfl 1 (by decide) (hts _ w_352) (fun _ h9 => h9) rfl dX9_farthest_1 ?_
  refine lv_iload_n hx hb dX9_farthest_4 rfl (lv_at hl 1 rfl) ?_
  obtain ⟨v1, ev1⟩ : ∃ y : Int64, p0.toInt64 = y := ⟨_, rfl⟩
  have tv1 : v1.toInt = p0.toInt := ti_wide rfl ev1
  refine lv_i2l (v := v1) hx hb dX9_farthest_5 ev1 ?_
  refine k_i (wc := [(b 1, oX0 bt t_lines t_span t_rule t_odds t_wide t_high t_creeks t_houses t_widows t_acts)]) (wr := [(h0, oX9 b), (b 4, oX6 bn n_field n_houses), (bn 7, .inl (cJ, 13, .inr (.inl n_f7))), (bn 8, .inl (cJ, 13, .inr (.inl n_f8))), (bn 9, .inl (cJ, 13, .inr (.inl n_f9))), (b 7, oX3 z0 k_cells k_across k_down)]) hP hD hS hA [1] [0, 2, 3, 4, 5, 6] rfl rfl rfl (by decide) (va_runVN (As := [.long v1]) (rest := []) ⟨hx, hb, hml, hown, hts⟩ (f_X0_spotOf l G cI cJ cZ cB cQ _ (b 1) v1 bt t_lines t_span t_rule t_odds t_wide t_high t_creeks t_houses t_widows t_acts hl_t_span hh_t_span hl_t_rule hh_t_rule hl_t_odds hh_t_odds hl_t_wide hh_t_wide hl_t_high hh_t_high hl_t_creeks hh_t_creeks hl_t_houses hh_t_houses hl_t_widows hh_t_widows hl_t_acts hh_t_acts) ⟨va_cnB (host := "WidowRoads") 1 hts (gW w_656) rfl rfl rfl (nz_nw hZ nw_653 rfl) (hts _ w_4) hd_X0_spotOf ⟨Nat.le_of_ble_eq_true rfl, Nat.le_of_ble_eq_true rfl⟩, (hts _ w_655), (hts _ wp_34)⟩ (mV hK hZ hP hD [1] rfl rfl [.long v1] 1 0 rfl rfl) rfl rfl hl.1 rfl (lv_room (Nat.le_of_ble_eq_true rfl)) dX9_farthest_6 ⟨Nat.le_of_ble_eq_true rfl, Nat.le_of_ble_eq_true rfl⟩) (fun r2 u3 H locs hw4 hP hD hS => ?_)
  try dsimp only at hw4
  have hP : va_P G vwCl [(h0, oX9 b), (b 4, oX6 bn n_field n_houses), (bn 7, .inl (cJ, 13, .inr (.inl n_f7))), (bn 8, .inl (cJ, 13, .inr (.inl n_f8))), (bn 9, .inl (cJ, 13, .inr (.inl n_f9))), (b 7, oX3 z0 k_cells k_across k_down), (b 1, oX0 bt t_lines t_span t_rule t_odds t_wide t_high t_creeks t_houses t_widows t_acts)] H := hP
  have hD : va_D A [(h0, oX9 b), (b 4, oX6 bn n_field n_houses), (bn 7, .inl (cJ, 13, .inr (.inl n_f7))), (bn 8, .inl (cJ, 13, .inr (.inl n_f8))), (bn 9, .inl (cJ, 13, .inr (.inl n_f9))), (b 7, oX3 z0 k_cells k_across k_down), (b 1, oX0 bt t_lines t_span t_rule t_odds t_wide t_high t_creeks t_houses t_widows t_acts)] := hD
  refine lv_istore_n (lv' := [(3, .int r2), (0, .ref h0), (1, .int p0), (2, .int p1)]) hx hb dX9_farthest_9 rfl hl (by decide) rfl (fun ls hl => ?_)
  refine lv_iload_n hx hb dX9_farthest_10 rfl (lv_at hl 0 rfl) ?_
  refine lv_iconst (v := (-1)) hx hb dX9_farthest_11 (by decide) ?_
  refine lv_icmp_eq (tgt := 26) hx hb dX9_farthest_12 (by decide) (fun c5 => ?_) (fun c5 => ?_)
  · have c5 := i_eq rfl ki_m1 c5
    refine lv_bipush (v := (-2)) hx hb dX9_farthest_26 (by decide) ?_
    exact hret _ _ _ _ (-2) (k_cells, k_across, k_down) (hP.sub (ws' := [(h0, oX9 b), (b 1, oX0 bt t_lines t_span t_rule t_odds t_wide t_high t_creeks t_houses t_widows t_acts), (b 4, oX6 bn n_field n_houses), (bn 7, .inl (cJ, 13, .inr (.inl n_f7))), (bn 8, .inl (cJ, 13, .inr (.inl n_f8))), (bn 9, .inl (cJ, 13, .inr (.inl n_f9))), (b 7, oX3 z0 k_cells k_across k_down)]) [0, 6, 1, 2, 3, 4, 5] rfl) (hD.sub (ws' := [(h0, oX9 b), (b 1, oX0 bt t_lines t_span t_rule t_odds t_wide t_high t_creeks t_houses t_widows t_acts), (b 4, oX6 bn n_field n_houses), (bn 7, .inl (cJ, 13, .inr (.inl n_f7))), (bn 8, .inl (cJ, 13, .inr (.inl n_f8))), (bn 9, .inl (cJ, 13, .inr (.inl n_f9))), (b 7, oX3 z0 k_cells k_across k_down)]) [0, 6, 1, 2, 3, 4, 5] rfl rfl) hS dX9_farthest_28 trivial
  · have c5 := i_ne rfl ki_m1 c5
    refine lv_aload_n hx hb dX9_farthest_15 rfl (lv_at hl 1 rfl) ?_
    refine va_get (D := G) (ci := 9) (v := .ref (b 1)) (C := RX9) (T := TX9) (N := 11) hx hb hts iG_X9 hown hK hP 0 rfl rfl 1 (by decide) (hts _ w_352) (fun _ h9 => h9) rfl dX9_farthest_16 ?_
    refine lv_iload_n hx hb dX9_farthest_19 rfl (lv_at hl 3 rfl) ?_
    refine k_i (wc := [(b 1, oX0 bt t_lines t_span t_rule t_odds t_wide t_high t_creeks t_houses t_widows t_acts)]) (wr := [(h0, oX9 b), (b 4, oX6 bn n_field n_houses), (bn 7, .inl (cJ, 13, .inr (.inl n_f7))), (bn 8, .inl (cJ, 13, .inr (.inl n_f8))), (bn 9, .inl (cJ, 13, .inr (.inl n_f9))), (b 7, oX3 z0 k_cells k_across k_down)]) hP hD hS hA [6] [0, 1, 2, 3, 4, 5] rfl rfl rfl (by decide) (va_runVN (As := [.int p1]) (rest := []) ⟨hx, hb, hml, hown, hts⟩ (f_X0_hasYear l G cI cJ cZ cB cQ _ (b 1) p1 p1.toInt bt t_lines t_span t_rule t_odds t_wide t_high t_creeks t_houses t_widows t_acts rfl hl_t_span hh_t_span hl_t_rule hh_t_rule hl_t_odds hh_t_odds hl_t_wide hh_t_wide hl_t_high hh_t_high hl_t_creeks hh_t_creeks hl_t_houses hh_t_houses hl_t_widows hh_t_widows hl_t_acts hh_t_acts) ⟨va_cnB (host := "WidowRoads") 1 hts (gW w_727) rfl rfl rfl (nz_nw hZ nw_724 rfl) (hts _ w_4) hd_X0_hasYear ⟨Nat.le_of_ble_eq_true rfl, Nat.le_of_ble_eq_true rfl⟩, (hts _ w_726), (hts _ wp_39)⟩ (mV hK hZ hP hD [6] rfl rfl [.int p1] 6 0 rfl rfl) rfl rfl hl.1 rfl (lv_room (Nat.le_of_ble_eq_true rfl)) dX9_farthest_20 ⟨Nat.le_of_ble_eq_true rfl, Nat.le_of_ble_eq_true rfl⟩) (fun r6 u7 H locs hw8 hP hD hS => ?_)
    try dsimp only at hw8
    have hP : va_P G vwCl [(h0, oX9 b), (b 4, oX6 bn n_field n_houses), (bn 7, .inl (cJ, 13, .inr (.inl n_f7))), (bn 8, .inl (cJ, 13, .inr (.inl n_f8))), (bn 9, .inl (cJ, 13, .inr (.inl n_f9))), (b 7, oX3 z0 k_cells k_across k_down), (b 1, oX0 bt t_lines t_span t_rule t_odds t_wide t_high t_creeks t_houses t_widows t_acts)] H := hP
    have hD : va_D A [(h0, oX9 b), (b 4, oX6 bn n_field n_houses), (bn 7, .inl (cJ, 13, .inr (.inl n_f7))), (bn 8, .inl (cJ, 13, .inr (.inl n_f8))), (bn 9, .inl (cJ, 13, .inr (.inl n_f9))), (b 7, oX3 z0 k_cells k_across k_down), (b 1, oX0 bt t_lines t_span t_rule t_odds t_wide t_high t_creeks t_houses t_widows t_acts)] := hD
    rcases hw8 with ⟨rfl, a10, a11⟩ | rfl
    · skip
      refine lv_if_ne (tgt := 29) hx hb dX9_farthest_23 (by decide) (fun c12 => ?_) (fun c12 => absurd c12 (by decide))
      refine lv_aload_n hx hb dX9_farthest_29 rfl (lv_at hl 1 rfl) ?_
      refine va_get (D := G) (ci := 9) (v := .ref (b 7)) (C := RX9) (T := TX9) (N := 11) hx hb hts iG_X9 hown hK hP 0 rfl rfl 7 (by decide) (hts _ w_358) (fun _ h9 => h9) rfl dX9_farthest_30 ?_
      refine lv_aload_n hx hb dX9_farthest_33 rfl (lv_at hl 1 rfl) ?_
      refine va_get (D := G) (ci := 9) (v := .ref (b 4)) (C := RX9) (T := TX9) (N := 11) hx hb hts iG_X9 hown hK hP 0 rfl rfl 4 (by decide) (hts _ w_355) (fun _ h9 => h9) rfl dX9_farthest_34 ?_
      refine lv_iload_n hx hb dX9_farthest_37 rfl (lv_at hl 3 rfl) ?_
      refine k_v (wc := [(b 7, oX3 z0 k_cells k_across k_down), (b 4, oX6 bn n_field n_houses), (bn 7, .inl (cJ, 13, .inr (.inl n_f7))), (bn 8, .inl (cJ, 13, .inr (.inl n_f8))), (bn 9, .inl (cJ, 13, .inr (.inl n_f9)))]) (wr := [(h0, oX9 b), (b 1, oX0 bt t_lines t_span t_rule t_odds t_wide t_high t_creeks t_houses t_widows t_acts)]) hP hD hS hA [5, 1, 2, 3, 4] [0, 6] rfl rfl rfl (by decide) (va_runVN (As := [.ref (b 4), .int p1]) (rest := []) ⟨hx, hb, hml, hown, hts⟩ (f_X3_lay l G cI cJ cZ cB cQ _ (b 7) (b 4) p1 k_cells k_across k_down bn n_field n_houses n_f7 n_f8 n_f9 (by omega) (by omega) hl_n_houses hh_n_houses) ⟨va_cnB (host := "WidowRoads") 2 hts (gW w_781) rfl rfl rfl (nz_nw hZ nw_778 rfl) (hts _ w_8) hd_X3_lay ⟨Nat.le_of_ble_eq_true rfl, Nat.le_of_ble_eq_true rfl⟩, (hts _ w_780), (hts _ wp_45)⟩ (mV hK hZ hP hD [5, 1, 2, 3, 4] rfl rfl [.ref (b 4), .int p1] 5 3 rfl rfl) rfl rfl hl.1 rfl (lv_room (Nat.le_of_ble_eq_true rfl)) dX9_farthest_38 ⟨Nat.le_of_ble_eq_true rfl, Nat.le_of_ble_eq_true rfl⟩) (fun u14 H locs hw15 hP hD hS => ?_)
      obtain ⟨o_cellso16, o_acrosso17, o_downo18⟩ := u14
      try dsimp only at hw15
      have hP : va_P G vwCl [(h0, oX9 b), (b 1, oX0 bt t_lines t_span t_rule t_odds t_wide t_high t_creeks t_houses t_widows t_acts), (b 7, oX3 z0 o_cellso16 o_acrosso17 o_downo18), (b 4, oX6 bn n_field n_houses), (bn 7, .inl (cJ, 13, .inr (.inl n_f7))), (bn 8, .inl (cJ, 13, .inr (.inl n_f8))), (bn 9, .inl (cJ, 13, .inr (.inl n_f9)))] H := hP
      have hD : va_D A [(h0, oX9 b), (b 1, oX0 bt t_lines t_span t_rule t_odds t_wide t_high t_creeks t_houses t_widows t_acts), (b 7, oX3 z0 o_cellso16 o_acrosso17 o_downo18), (b 4, oX6 bn n_field n_houses), (bn 7, .inl (cJ, 13, .inr (.inl n_f7))), (bn 8, .inl (cJ, 13, .inr (.inl n_f8))), (bn 9, .inl (cJ, 13, .inr (.inl n_f9)))] := hD
      refine lv_aload_n hx hb dX9_farthest_41 rfl (lv_at hl 1 rfl) ?_
      refine va_get (D := G) (ci := 9) (v := .ref (b 7)) (C := RX9) (T := TX9) (N := 11) hx hb hts iG_X9 hown hK hP 0 rfl rfl 7 (by decide) (hts _ w_358) (fun _ h9 => h9) rfl dX9_farthest_42 ?_
      refine lv_iload_n hx hb dX9_farthest_45 rfl (lv_at hl 0 rfl) ?_
      refine k_i (wc := [(b 7, oX3 z0 o_cellso16 o_acrosso17 o_downo18)]) (wr := [(h0, oX9 b), (b 1, oX0 bt t_lines t_span t_rule t_odds t_wide t_high t_creeks t_houses t_widows t_acts), (b 4, oX6 bn n_field n_houses), (bn 7, .inl (cJ, 13, .inr (.inl n_f7))), (bn 8, .inl (cJ, 13, .inr (.inl n_f8))), (bn 9, .inl (cJ, 13, .inr (.inl n_f9)))]) hP hD hS hA [2] [0, 1, 3, 4, 5, 6] rfl rfl rfl (by decide) (va_runVN (As := [.int r2]) (rest := []) ⟨hx, hb, hml, hown, hts⟩ (f_X3_outermost l G cI cJ cZ cB cQ _ (b 7) r2 o_cellso16 o_acrosso17 o_downo18) ⟨va_cnB (host := "WidowRoads") 1 hts (gW w_856) rfl rfl rfl (nz_nw hZ nw_853 rfl) (hts _ w_8) hd_X3_outermost ⟨Nat.le_of_ble_eq_true rfl, Nat.le_of_ble_eq_true rfl⟩, (hts _ w_855), (hts _ wp_51)⟩ (mV hK hZ hP hD [2] rfl rfl [.int r2] 2 3 rfl rfl) rfl rfl hl.1 rfl (lv_room (Nat.le_of_ble_eq_true rfl)) dX9_farthest_46 ⟨Nat.le_of_ble_eq_true rfl, Nat.le_of_ble_eq_true rfl⟩) (fun r19 u20 H locs hw21 hP hD hS => ?_)
      try dsimp only at hw21
      have hP : va_P G vwCl [(h0, oX9 b), (b 1, oX0 bt t_lines t_span t_rule t_odds t_wide t_high t_creeks t_houses t_widows t_acts), (b 4, oX6 bn n_field n_houses), (bn 7, .inl (cJ, 13, .inr (.inl n_f7))), (bn 8, .inl (cJ, 13, .inr (.inl n_f8))), (bn 9, .inl (cJ, 13, .inr (.inl n_f9))), (b 7, oX3 z0 o_cellso16 o_acrosso17 o_downo18)] H := hP
      have hD : va_D A [(h0, oX9 b), (b 1, oX0 bt t_lines t_span t_rule t_odds t_wide t_high t_creeks t_houses t_widows t_acts), (b 4, oX6 bn n_field n_houses), (bn 7, .inl (cJ, 13, .inr (.inl n_f7))), (bn 8, .inl (cJ, 13, .inr (.inl n_f8))), (bn 9, .inl (cJ, 13, .inr (.inl n_f9))), (b 7, oX3 z0 o_cellso16 o_acrosso17 o_downo18)] := hD
      refine k_i (wc := []) (wr := [(h0, oX9 b), (b 1, oX0 bt t_lines t_span t_rule t_odds t_wide t_high t_creeks t_houses t_widows t_acts), (b 4, oX6 bn n_field n_houses), (bn 7, .inl (cJ, 13, .inr (.inl n_f7))), (bn 8, .inl (cJ, 13, .inr (.inl n_f8))), (bn 9, .inl (cJ, 13, .inr (.inl n_f9))), (b 7, oX3 z0 o_cellso16 o_acrosso17 o_downo18)]) hP hD hS hA [] [0, 1, 2, 3, 4, 5, 6] rfl rfl rfl (by decide) (va_runS (As := [.int r19]) (rest := []) ⟨hx, hb, hml, hown, hts⟩ (f_X9_cellOf l G cI cJ cZ cB cQ _ r19) (va_cwS 1 hts (gS w_672 w_673 w_1 w_674) rfl rfl rfl hd_X9_cellOf ⟨Nat.le_of_ble_eq_true rfl, Nat.le_of_ble_eq_true rfl⟩) (mS hK hZ hP hD [] rfl rfl [.int r19]) rfl rfl hl.1 rfl (lv_room (Nat.le_of_ble_eq_true rfl)) dX9_farthest_49 ⟨Nat.le_of_ble_eq_true rfl, Nat.le_of_ble_eq_true rfl⟩) (fun r22 u23 H locs hw24 hP hD hS => ?_)
      try dsimp only at hw24
      have hP : va_P G vwCl [(h0, oX9 b), (b 1, oX0 bt t_lines t_span t_rule t_odds t_wide t_high t_creeks t_houses t_widows t_acts), (b 4, oX6 bn n_field n_houses), (bn 7, .inl (cJ, 13, .inr (.inl n_f7))), (bn 8, .inl (cJ, 13, .inr (.inl n_f8))), (bn 9, .inl (cJ, 13, .inr (.inl n_f9))), (b 7, oX3 z0 o_cellso16 o_acrosso17 o_downo18)] H := hP
      have hD : va_D A [(h0, oX9 b), (b 1, oX0 bt t_lines t_span t_rule t_odds t_wide t_high t_creeks t_houses t_widows t_acts), (b 4, oX6 bn n_field n_houses), (bn 7, .inl (cJ, 13, .inr (.inl n_f7))), (bn 8, .inl (cJ, 13, .inr (.inl n_f8))), (bn 9, .inl (cJ, 13, .inr (.inl n_f9))), (b 7, oX3 z0 o_cellso16 o_acrosso17 o_downo18)] := hD
      exact hret _ _ _ _ r22 (o_cellso16, o_acrosso17, o_downo18) hP hD hS dX9_farthest_52 trivial
    · skip
      refine lv_if_ne (tgt := 29) hx hb dX9_farthest_23 (by decide) (fun c25 => absurd (by decide) c25) (fun c25 => ?_)
      refine lv_bipush (v := (-2)) hx hb dX9_farthest_26 (by decide) ?_
      exact hret _ _ _ _ (-2) (k_cells, k_across, k_down) (hP.sub (ws' := [(h0, oX9 b), (b 1, oX0 bt t_lines t_span t_rule t_odds t_wide t_high t_creeks t_houses t_widows t_acts), (b 4, oX6 bn n_field n_houses), (bn 7, .inl (cJ, 13, .inr (.inl n_f7))), (bn 8, .inl (cJ, 13, .inr (.inl n_f8))), (bn 9, .inl (cJ, 13, .inr (.inl n_f9))), (b 7, oX3 z0 k_cells k_across k_down)]) [0, 6, 1, 2, 3, 4, 5] rfl) (hD.sub (ws' := [(h0, oX9 b), (b 1, oX0 bt t_lines t_span t_rule t_odds t_wide t_high t_creeks t_houses t_widows t_acts), (b 4, oX6 bn n_field n_houses), (bn 7, .inl (cJ, 13, .inr (.inl n_f7))), (bn 8, .inl (cJ, 13, .inr (.inl n_f8))), (bn 9, .inl (cJ, 13, .inr (.inl n_f9))), (b 7, oX3 z0 k_cells k_across k_down)]) [0, 6, 1, 2, 3, 4, 5] rfl rfl) hS dX9_farthest_28 trivial
set_option maxHeartbeats 4000000 in
set_option maxRecDepth 100000 in
theorem f_X9_line (l : Launch) (G : va_G) (cI cJ cZ cB cQ : ClassId) (sz : Nat) (h0 : Nat) (p0 : Int32) (b : Nat → Nat) (bt : Nat → Nat) (t_lines : Int32) (t_span : Int32) (t_rule : Int32) (t_odds : Int32) (t_wide : Int32) (t_high : Int32) (t_creeks : Int32) (t_houses : Int32) (t_widows : Int32) (t_acts : Int32) (bn : Nat → Nat) (n_field : Int64) (n_houses : Int32) (n_f7 : Nat → Int64) (n_f8 : Nat → Int64) (n_f9 : Nat → Int64) (k_cells : Int64) (k_across : Int64) (k_down : Int64) (hl_t_span : 0 ≤ t_span.toInt) (hh_t_span : t_span.toInt ≤ 12) (hl_t_rule : 0 ≤ t_rule.toInt) (hh_t_rule : t_rule.toInt ≤ 3) (hl_t_odds : 0 ≤ t_odds.toInt) (hh_t_odds : t_odds.toInt ≤ 10) (hl_t_wide : 0 ≤ t_wide.toInt) (hh_t_wide : t_wide.toInt ≤ 8) (hl_t_high : 0 ≤ t_high.toInt) (hh_t_high : t_high.toInt ≤ 8) (hl_t_creeks : 0 ≤ t_creeks.toInt) (hh_t_creeks : t_creeks.toInt ≤ 12) (hl_t_houses : 0 ≤ t_houses.toInt) (hh_t_houses : t_houses.toInt ≤ 6) (hl_t_widows : 0 ≤ t_widows.toInt) (hh_t_widows : t_widows.toInt ≤ 7) (hl_t_acts : 0 ≤ t_acts.toInt) (hh_t_acts : t_acts.toInt ≤ 30) (hl_n_houses : 0 ≤ n_houses.toInt) (hh_n_houses : n_houses.toInt ≤ 6) : CI l yX9_line (wl_ yX9_line cX9_line 2 (some .int)) ({ frames := 1, cells := 0, slots := 0, locals := 26 } : Room) G (TY cI cJ cZ cB cQ) [.ref h0, .int p0] [(h0, oX9 b), (b 1, oX0 bt t_lines t_span t_rule t_odds t_wide t_high t_creeks t_houses t_widows t_acts), (b 4, oX6 bn n_field n_houses), (bn 7, .inl (cJ, 13, .inr (.inl n_f7))), (bn 8, .inl (cJ, 13, .inr (.inl n_f8))), (bn 9, .inl (cJ, 13, .inr (.inl n_f9))), (b 7, oX3 z0 k_cells k_across k_down)] sz (fun (r : Int32) (u : Int64 × Int64 × Int64) => True) (fun u : Int64 × Int64 × Int64 => [(h0, oX9 b), (b 1, oX0 bt t_lines t_span t_rule t_odds t_wide t_high t_creeks t_houses t_widows t_acts), (b 4, oX6 bn n_field n_houses), (bn 7, .inl (cJ, 13, .inr (.inl n_f7))), (bn 8, .inl (cJ, 13, .inr (.inl n_f8))), (bn 9, .inl (cJ, 13, .inr (.inl n_f9))), (b 7, oX3 z0 u.1 u.2.1 u.2.2)]) 0 0 := by
  refine CI.go (cc := cX9_line) (maxL := 2) (ret := (some .int)) (by decide) rfl (Nat.le_of_ble_eq_true rfl) ?_
  intro p e s m below meth c A ls Q hBd hret
  obtain ⟨hx, hb, hr, hml, hts, hown, hlk, hnm, hP, hK, hD, hA, hZ, hl⟩ := hBd
  have hown : s.vm.findClass RX9 = some m.cls := hown
  have hl : lv_has ls 2 [(0, .ref h0), (1, .int p0)] := hl
  have hS : va_S A s.heap s.heap [] := va_S.rf
  refine lv_aload_n hx hb dX9_line_0 rfl (lv_at hl 0 rfl) ?_
  refine va_get (D := G) (ci := 9) (v := .ref (b 1)) (C := RX9) (T := TX9) (N := 11) hx hb hts iG_X9 hown hK hP 0 rfl rfl 1 (by decide) (hts _ w_352) (fun _ h9 => h9) rfl dX9_line_1 ?_
  refine lv_iload_n hx hb dX9_line_4 rfl (lv_at hl 1 rfl) ?_
  refine k_i (wc := [(b 1, oX0 bt t_lines t_span t_rule t_odds t_wide t_high t_creeks t_houses t_widows t_acts)]) (wr := [(h0, oX9 b), (b 4, oX6 bn n_field n_houses), (bn 7, .inl (cJ, 13, .inr (.inl n_f7))), (bn 8, .inl (cJ, 13, .inr (.inl n_f8))), (bn 9, .inl (cJ, 13, .inr (.inl n_f9))), (b 7, oX3 z0 k_cells k_across k_down)]) hP hD hS hA [1] [0, 2, 3, 4, 5, 6] rfl rfl rfl (by decide) (va_runVN (As := [.int p0]) (rest := []) ⟨hx, hb, hml, hown, hts⟩ (f_X0_hasYear l G cI cJ cZ cB cQ _ (b 1) p0 p0.toInt bt t_lines t_span t_rule t_odds t_wide t_high t_creeks t_houses t_widows t_acts rfl hl_t_span hh_t_span hl_t_rule hh_t_rule hl_t_odds hh_t_odds hl_t_wide hh_t_wide hl_t_high hh_t_high hl_t_creeks hh_t_creeks hl_t_houses hh_t_houses hl_t_widows hh_t_widows hl_t_acts hh_t_acts) ⟨va_cnB (host := "WidowRoads") 1 hts (gW w_727) rfl rfl rfl (nz_nw hZ nw_724 rfl) (hts _ w_4) hd_X0_hasYear ⟨Nat.le_of_ble_eq_true rfl, Nat.le_of_ble_eq_true rfl⟩, (hts _ w_726), (hts _ wp_39)⟩ (mV hK hZ hP hD [1] rfl rfl [.int p0] 1 0 rfl rfl) rfl rfl hl.1 rfl (lv_room (Nat.le_of_ble_eq_true rfl)) dX9_line_5 ⟨Nat.le_of_ble_eq_true rfl, Nat.le_of_ble_eq_true rfl⟩) (fun r1 u2 H locs hw3 hP hD hS => ?_)
  try dsimp only at hw3
  have hP : va_P G vwCl [(h0, oX9 b), (b 4, oX6 bn n_field n_houses), (bn 7, .inl (cJ, 13, .inr (.inl n_f7))), (bn 8, .inl (cJ, 13, .inr (.inl n_f8))), (bn 9, .inl (cJ, 13, .inr (.inl n_f9))), (b 7, oX3 z0 k_cells k_across k_down), (b 1, oX0 bt t_lines t_span t_rule t_odds t_wide t_high t_creeks t_houses t_widows t_acts)] H := hP
  have hD : va_D A [(h0, oX9 b), (b 4, oX6 bn n_field n_houses), (bn 7, .inl (cJ, 13, .inr (.inl n_f7))), (bn 8, .inl (cJ, 13, .inr (.inl n_f8))), (bn 9, .inl (cJ, 13, .inr (.inl n_f9))), (b 7, oX3 z0 k_cells k_across k_down), (b 1, oX0 bt t_lines t_span t_rule t_odds t_wide t_high t_creeks t_houses t_widows t_acts)] := hD
  rcases hw3 with ⟨rfl, a5, a6⟩ | rfl
  · skip
    refine lv_if_ne (tgt := 14) hx hb dX9_line_8 (by decide) (fun c7 => ?_) (fun c7 => absurd c7 (by decide))
    refine lv_aload_n hx hb dX9_line_14 rfl (lv_at hl 0 rfl) ?_
    refine va_get (D := G) (ci := 9) (v := .ref (b 7)) (C := RX9) (T := TX9) (N := 11) hx hb hts iG_X9 hown hK hP 0 rfl rfl 7 (by decide) (hts _ w_358) (fun _ h9 => h9) rfl dX9_line_15 ?_
    refine lv_aload_n hx hb dX9_line_18 rfl (lv_at hl 0 rfl) ?_
    refine va_get (D := G) (ci := 9) (v := .ref (b 4)) (C := RX9) (T := TX9) (N := 11) hx hb hts iG_X9 hown hK hP 0 rfl rfl 4 (by decide) (hts _ w_355) (fun _ h9 => h9) rfl dX9_line_19 ?_
    refine lv_iload_n hx hb dX9_line_22 rfl (lv_at hl 1 rfl) ?_
    refine k_v (wc := [(b 7, oX3 z0 k_cells k_across k_down), (b 4, oX6 bn n_field n_houses), (bn 7, .inl (cJ, 13, .inr (.inl n_f7))), (bn 8, .inl (cJ, 13, .inr (.inl n_f8))), (bn 9, .inl (cJ, 13, .inr (.inl n_f9)))]) (wr := [(h0, oX9 b), (b 1, oX0 bt t_lines t_span t_rule t_odds t_wide t_high t_creeks t_houses t_widows t_acts)]) hP hD hS hA [5, 1, 2, 3, 4] [0, 6] rfl rfl rfl (by decide) (va_runVN (As := [.ref (b 4), .int p0]) (rest := []) ⟨hx, hb, hml, hown, hts⟩ (f_X3_lay l G cI cJ cZ cB cQ _ (b 7) (b 4) p0 k_cells k_across k_down bn n_field n_houses n_f7 n_f8 n_f9 (by omega) (by omega) hl_n_houses hh_n_houses) ⟨va_cnB (host := "WidowRoads") 2 hts (gW w_781) rfl rfl rfl (nz_nw hZ nw_778 rfl) (hts _ w_8) hd_X3_lay ⟨Nat.le_of_ble_eq_true rfl, Nat.le_of_ble_eq_true rfl⟩, (hts _ w_780), (hts _ wp_45)⟩ (mV hK hZ hP hD [5, 1, 2, 3, 4] rfl rfl [.ref (b 4), .int p0] 5 3 rfl rfl) rfl rfl hl.1 rfl (lv_room (Nat.le_of_ble_eq_true rfl)) dX9_line_23 ⟨Nat.le_of_ble_eq_true rfl, Nat.le_of_ble_eq_true rfl⟩) (fun u9 H locs hw10 hP hD hS => ?_)
    obtain ⟨o_cellso11, o_acrosso12, o_downo13⟩ := u9
    try dsimp only at hw10
    have hP : va_P G vwCl [(h0, oX9 b), (b 1, oX0 bt t_lines t_span t_rule t_odds t_wide t_high t_creeks t_houses t_widows t_acts), (b 7, oX3 z0 o_cellso11 o_acrosso12 o_downo13), (b 4, oX6 bn n_field n_houses), (bn 7, .inl (cJ, 13, .inr (.inl n_f7))), (bn 8, .inl (cJ, 13, .inr (.inl n_f8))), (bn 9, .inl (cJ, 13, .inr (.inl n_f9)))] H := hP
    have hD : va_D A [(h0, oX9 b), (b 1, oX0 bt t_lines t_span t_rule t_odds t_wide t_high t_creeks t_houses t_widows t_acts), (b 7, oX3 z0 o_cellso11 o_acrosso12 o_downo13), (b 4, oX6 bn n_field n_houses), (bn 7, .inl (cJ, 13, .inr (.inl n_f7))), (bn 8, .inl (cJ, 13, .inr (.inl n_f8))), (bn 9, .inl (cJ, 13, .inr (.inl n_f9)))] := hD
    refine lv_aload_n hx hb dX9_line_26 rfl (lv_at hl 0 rfl) ?_
    refine va_get (D := G) (ci := 9) (v := .ref (b 7)) (C := RX9) (T := TX9) (N := 11) hx hb hts iG_X9 hown hK hP 0 rfl rfl 7 (by decide) (hts _ w_358) (fun _ h9 => h9) rfl dX9_line_27 ?_
    refine k_i (wc := [(b 7, oX3 z0 o_cellso11 o_acrosso12 o_downo13)]) (wr := [(h0, oX9 b), (b 1, oX0 bt t_lines t_span t_rule t_odds t_wide t_high t_creeks t_houses t_widows t_acts), (b 4, oX6 bn n_field n_houses), (bn 7, .inl (cJ, 13, .inr (.inl n_f7))), (bn 8, .inl (cJ, 13, .inr (.inl n_f8))), (bn 9, .inl (cJ, 13, .inr (.inl n_f9)))]) hP hD hS hA [2] [0, 1, 3, 4, 5, 6] rfl rfl rfl (by decide) (va_runVN (As := []) (rest := []) ⟨hx, hb, hml, hown, hts⟩ (f_X3_longestRow l G cI cJ cZ cB cQ _ (b 7) o_cellso11 o_acrosso12 o_downo13) ⟨va_cnB (host := "WidowRoads") 0 hts (gW w_885) rfl rfl rfl (nz_nw hZ nw_882 rfl) (hts _ w_8) hd_X3_longestRow ⟨Nat.le_of_ble_eq_true rfl, Nat.le_of_ble_eq_true rfl⟩, (hts _ w_884), (hts _ wp_53)⟩ (mV hK hZ hP hD [2] rfl rfl [] 2 3 rfl rfl) rfl rfl hl.1 rfl (lv_room (Nat.le_of_ble_eq_true rfl)) dX9_line_30 ⟨Nat.le_of_ble_eq_true rfl, Nat.le_of_ble_eq_true rfl⟩) (fun r14 u15 H locs hw16 hP hD hS => ?_)
    try dsimp only at hw16
    have hP : va_P G vwCl [(h0, oX9 b), (b 1, oX0 bt t_lines t_span t_rule t_odds t_wide t_high t_creeks t_houses t_widows t_acts), (b 4, oX6 bn n_field n_houses), (bn 7, .inl (cJ, 13, .inr (.inl n_f7))), (bn 8, .inl (cJ, 13, .inr (.inl n_f8))), (bn 9, .inl (cJ, 13, .inr (.inl n_f9))), (b 7, oX3 z0 o_cellso11 o_acrosso12 o_downo13)] H := hP
    have hD : va_D A [(h0, oX9 b), (b 1, oX0 bt t_lines t_span t_rule t_odds t_wide t_high t_creeks t_houses t_widows t_acts), (b 4, oX6 bn n_field n_houses), (bn 7, .inl (cJ, 13, .inr (.inl n_f7))), (bn 8, .inl (cJ, 13, .inr (.inl n_f8))), (bn 9, .inl (cJ, 13, .inr (.inl n_f9))), (b 7, oX3 z0 o_cellso11 o_acrosso12 o_downo13)] := hD
    exact hret _ _ _ _ r14 (o_cellso11, o_acrosso12, o_downo13) hP hD hS dX9_line_33 trivial
  · skip
    refine lv_if_ne (tgt := 14) hx hb dX9_line_8 (by decide) (fun c17 => absurd (by decide) c17) (fun c17 => ?_)
    refine lv_bipush (v := (-2)) hx hb dX9_line_11 (by decide) ?_
    exact hret _ _ _ _ (-2) (k_cells, k_across, k_down) (hP.sub (ws' := [(h0, oX9 b), (b 1, oX0 bt t_lines t_span t_rule t_odds t_wide t_high t_creeks t_houses t_widows t_acts), (b 4, oX6 bn n_field n_houses), (bn 7, .inl (cJ, 13, .inr (.inl n_f7))), (bn 8, .inl (cJ, 13, .inr (.inl n_f8))), (bn 9, .inl (cJ, 13, .inr (.inl n_f9))), (b 7, oX3 z0 k_cells k_across k_down)]) [0, 6, 1, 2, 3, 4, 5] rfl) (hD.sub (ws' := [(h0, oX9 b), (b 1, oX0 bt t_lines t_span t_rule t_odds t_wide t_high t_creeks t_houses t_widows t_acts), (b 4, oX6 bn n_field n_houses), (bn 7, .inl (cJ, 13, .inr (.inl n_f7))), (bn 8, .inl (cJ, 13, .inr (.inl n_f8))), (bn 9, .inl (cJ, 13, .inr (.inl n_f9))), (b 7, oX3 z0 k_cells k_across k_down)]) [0, 6, 1, 2, 3, 4, 5] rfl rfl) hS dX9_line_13 trivial
set_option maxHeartbeats 4000000 in
set_option maxRecDepth 100000 in
theorem f_X9_beeline (l : Launch) (G : va_G) (cI cJ cZ cB cQ : ClassId) (sz : Nat) (h0 : Nat) (p0 : Int32) (p1 : Int32) (b : Nat → Nat) (bt : Nat → Nat) (t_lines : Int32) (t_span : Int32) (t_rule : Int32) (t_odds : Int32) (t_wide : Int32) (t_high : Int32) (t_creeks : Int32) (t_houses : Int32) (t_widows : Int32) (t_acts : Int32) (t_f10 : Nat → Int32) (t_f18 : Nat → Int32) (k_cells : Int64) (k_across : Int64) (k_down : Int64) (hl_t_span : 0 ≤ t_span.toInt) (hh_t_span : t_span.toInt ≤ 12) (hl_t_rule : 0 ≤ t_rule.toInt) (hh_t_rule : t_rule.toInt ≤ 3) (hl_t_odds : 0 ≤ t_odds.toInt) (hh_t_odds : t_odds.toInt ≤ 10) (hl_t_wide : 0 ≤ t_wide.toInt) (hh_t_wide : t_wide.toInt ≤ 8) (hl_t_high : 0 ≤ t_high.toInt) (hh_t_high : t_high.toInt ≤ 8) (hl_t_creeks : 0 ≤ t_creeks.toInt) (hh_t_creeks : t_creeks.toInt ≤ 12) (hl_t_houses : 0 ≤ t_houses.toInt) (hh_t_houses : t_houses.toInt ≤ 6) (hl_t_widows : 0 ≤ t_widows.toInt) (hh_t_widows : t_widows.toInt ≤ 7) (hl_t_acts : 0 ≤ t_acts.toInt) (hh_t_acts : t_acts.toInt ≤ 30) : CI l yX9_beeline (wl_ yX9_beeline cX9_beeline 5 (some .int)) ({ frames := 3, cells := 0, slots := 0, locals := 77 } : Room) G (TY cI cJ cZ cB cQ) [.ref h0, .int p0, .int p1] [(h0, oX9 b), (b 1, oX0 bt t_lines t_span t_rule t_odds t_wide t_high t_creeks t_houses t_widows t_acts), (bt 10, .inl (cI, 12, .inl t_f10)), (bt 18, .inl (cI, 30, .inl t_f18)), (b 7, oX3 z0 k_cells k_across k_down)] sz (fun (r : Int32) (u : Int64 × Int64 × Int64) => True) (fun u : Int64 × Int64 × Int64 => [(h0, oX9 b), (b 1, oX0 bt t_lines t_span t_rule t_odds t_wide t_high t_creeks t_houses t_widows t_acts), (bt 10, .inl (cI, 12, .inl t_f10)), (bt 18, .inl (cI, 30, .inl t_f18)), (b 7, oX3 z0 u.1 u.2.1 u.2.2)]) 0 0 := by
  refine CI.go (cc := cX9_beeline) (maxL := 5) (ret := (some .int)) (by decide) rfl (Nat.le_of_ble_eq_true rfl) ?_
  intro p e s m below meth c A ls Q hBd hret
  obtain ⟨hx, hb, hr, hml, hts, hown, hlk, hnm, hP, hK, hD, hA, hZ, hl⟩ := hBd
  have hown : s.vm.findClass RX9 = some m.cls := hown
  have hl : lv_has ls 5 [(0, .ref h0), (1, .int p0), (2, .int p1)] := hl
  have hS : va_S A s.heap s.heap [] := va_S.rf
  refine lv_aload_n hx hb dX9_beeline_0 rfl (lv_at hl 0 rfl) ?_
  refine va_get (D := G) (ci := 9) (v := .ref (b 1)) (C := RX9) (T := TX9) (N := 11) hx hb hts iG_X9 hown hK hP 0 rfl rfl 1 (by decide) (hts _ w_352) (fun _ h9 => h9) rfl dX9_beeline_1 ?_
  refine lv_iload_n hx hb dX9_beeline_4 rfl (lv_at hl 1 rfl) ?_
  obtain ⟨v1, ev1⟩ : ∃ y : Int64, p0.toInt64 = y := ⟨_, rfl⟩
  have tv1 : v1.toInt = p0.toInt := ti_wide rfl ev1
  refine lv_i2l (v := v1) hx hb dX9_beeline_5 ev1 ?_
  refine k_i (wc := [(b 1, oX0 bt t_lines t_span t_rule t_odds t_wide t_high t_creeks t_houses t_widows t_acts)]) (wr := [(h0, oX9 b), (bt 10, .inl (cI, 12, .inl t_f10)), (bt 18, .inl (cI, 30, .inl t_f18)), (b 7, oX3 z0 k_cells k_across k_down)]) hP hD hS hA [1] [0, 2, 3, 4] rfl rfl rfl (by decide) (va_runVN (As := [.long v1]) (rest := []) ⟨hx, hb, hml, hown, hts⟩ (f_X0_spotOf l G cI cJ cZ cB cQ _ (b 1) v1 bt t_lines t_span t_rule t_odds t_wide t_high t_creeks t_houses t_widows t_acts hl_t_span hh_t_span hl_t_rule hh_t_rule hl_t_odds hh_t_odds hl_t_wide hh_t_wide hl_t_high hh_t_high hl_t_creeks hh_t_creeks hl_t_houses hh_t_houses hl_t_widows hh_t_widows hl_t_acts hh_t_acts) ⟨va_cnB (host := "WidowRoads") 1 hts (gW w_656) rfl rfl rfl (nz_nw hZ nw_653 rfl) (hts _ w_4) hd_X0_spotOf ⟨Nat.le_of_ble_eq_true rfl, Nat.le_of_ble_eq_true rfl⟩, (hts _ w_655), (hts _ wp_34)⟩ (mV hK hZ hP hD [1] rfl rfl [.long v1] 1 0 rfl rfl) rfl rfl hl.1 rfl (lv_room (Nat.le_of_ble_eq_true rfl)) dX9_beeline_6 ⟨Nat.le_of_ble_eq_true rfl, Nat.le_of_ble_eq_true rfl⟩) (fun r2 u3 H locs hw4 hP hD hS => ?_)
  try dsimp only at hw4
  have hP : va_P G vwCl [(h0, oX9 b), (bt 10, .inl (cI, 12, .inl t_f10)), (bt 18, .inl (cI, 30, .inl t_f18)), (b 7, oX3 z0 k_cells k_across k_down), (b 1, oX0 bt t_lines t_span t_rule t_odds t_wide t_high t_creeks t_houses t_widows t_acts)] H := hP
  have hD : va_D A [(h0, oX9 b), (bt 10, .inl (cI, 12, .inl t_f10)), (bt 18, .inl (cI, 30, .inl t_f18)), (b 7, oX3 z0 k_cells k_across k_down), (b 1, oX0 bt t_lines t_span t_rule t_odds t_wide t_high t_creeks t_houses t_widows t_acts)] := hD
  refine lv_istore_n (lv' := [(3, .int r2), (0, .ref h0), (1, .int p0), (2, .int p1)]) hx hb dX9_beeline_9 rfl hl (by decide) rfl (fun ls hl => ?_)
  refine lv_aload_n hx hb dX9_beeline_10 rfl (lv_at hl 1 rfl) ?_
  refine va_get (D := G) (ci := 9) (v := .ref (b 1)) (C := RX9) (T := TX9) (N := 11) hx hb hts iG_X9 hown hK hP 0 rfl rfl 1 (by decide) (hts _ w_352) (fun _ h9 => h9) rfl dX9_beeline_11 ?_
  refine lv_iload_n hx hb dX9_beeline_14 rfl (lv_at hl 3 rfl) ?_
  obtain ⟨v5, ev5⟩ : ∃ y : Int64, p1.toInt64 = y := ⟨_, rfl⟩
  have tv5 : v5.toInt = p1.toInt := ti_wide rfl ev5
  refine lv_i2l (v := v5) hx hb dX9_beeline_15 ev5 ?_
  refine k_i (wc := [(b 1, oX0 bt t_lines t_span t_rule t_odds t_wide t_high t_creeks t_houses t_widows t_acts)]) (wr := [(h0, oX9 b), (bt 10, .inl (cI, 12, .inl t_f10)), (bt 18, .inl (cI, 30, .inl t_f18)), (b 7, oX3 z0 k_cells k_across k_down)]) hP hD hS hA [4] [0, 1, 2, 3] rfl rfl rfl (by decide) (va_runVN (As := [.long v5]) (rest := []) ⟨hx, hb, hml, hown, hts⟩ (f_X0_spotOf l G cI cJ cZ cB cQ _ (b 1) v5 bt t_lines t_span t_rule t_odds t_wide t_high t_creeks t_houses t_widows t_acts hl_t_span hh_t_span hl_t_rule hh_t_rule hl_t_odds hh_t_odds hl_t_wide hh_t_wide hl_t_high hh_t_high hl_t_creeks hh_t_creeks hl_t_houses hh_t_houses hl_t_widows hh_t_widows hl_t_acts hh_t_acts) ⟨va_cnB (host := "WidowRoads") 1 hts (gW w_656) rfl rfl rfl (nz_nw hZ nw_653 rfl) (hts _ w_4) hd_X0_spotOf ⟨Nat.le_of_ble_eq_true rfl, Nat.le_of_ble_eq_true rfl⟩, (hts _ w_655), (hts _ wp_34)⟩ (mV hK hZ hP hD [4] rfl rfl [.long v5] 4 0 rfl rfl) rfl rfl hl.1 rfl (lv_room (Nat.le_of_ble_eq_true rfl)) dX9_beeline_16 ⟨Nat.le_of_ble_eq_true rfl, Nat.le_of_ble_eq_true rfl⟩) (fun r6 u7 H locs hw8 hP hD hS => ?_)
  try dsimp only at hw8
  have hP : va_P G vwCl [(h0, oX9 b), (bt 10, .inl (cI, 12, .inl t_f10)), (bt 18, .inl (cI, 30, .inl t_f18)), (b 7, oX3 z0 k_cells k_across k_down), (b 1, oX0 bt t_lines t_span t_rule t_odds t_wide t_high t_creeks t_houses t_widows t_acts)] H := hP
  have hD : va_D A [(h0, oX9 b), (bt 10, .inl (cI, 12, .inl t_f10)), (bt 18, .inl (cI, 30, .inl t_f18)), (b 7, oX3 z0 k_cells k_across k_down), (b 1, oX0 bt t_lines t_span t_rule t_odds t_wide t_high t_creeks t_houses t_widows t_acts)] := hD
  refine lv_istore (lv' := [(4, .int r6), (3, .int r2), (0, .ref h0), (1, .int p0), (2, .int p1)]) hx hb dX9_beeline_19 hl (by decide) rfl (fun ls hl => ?_)
  refine lv_iload_n hx hb dX9_beeline_21 rfl (lv_at hl 1 rfl) ?_
  refine lv_iconst (v := (-1)) hx hb dX9_beeline_22 (by decide) ?_
  refine lv_icmp_eq (tgt := 32) hx hb dX9_beeline_23 (by decide) (fun c9 => ?_) (fun c9 => ?_)
  · have c9 := i_eq rfl ki_m1 c9
    refine lv_bipush (v := (-2)) hx hb dX9_beeline_32 (by decide) ?_
    exact hret _ _ _ _ (-2) (k_cells, k_across, k_down) (hP.sub (ws' := [(h0, oX9 b), (b 1, oX0 bt t_lines t_span t_rule t_odds t_wide t_high t_creeks t_houses t_widows t_acts), (bt 10, .inl (cI, 12, .inl t_f10)), (bt 18, .inl (cI, 30, .inl t_f18)), (b 7, oX3 z0 k_cells k_across k_down)]) [0, 4, 1, 2, 3] rfl) (hD.sub (ws' := [(h0, oX9 b), (b 1, oX0 bt t_lines t_span t_rule t_odds t_wide t_high t_creeks t_houses t_widows t_acts), (bt 10, .inl (cI, 12, .inl t_f10)), (bt 18, .inl (cI, 30, .inl t_f18)), (b 7, oX3 z0 k_cells k_across k_down)]) [0, 4, 1, 2, 3] rfl rfl) hS dX9_beeline_34 trivial
  · have c9 := i_ne rfl ki_m1 c9
    refine lv_iload hx hb dX9_beeline_26 (lv_at hl 0 rfl) ?_
    refine lv_iconst (v := (-1)) hx hb dX9_beeline_28 (by decide) ?_
    refine lv_icmp_ne (tgt := 35) hx hb dX9_beeline_29 (by decide) (fun c10 => ?_) (fun c10 => ?_)
    · have c10 := i_ne rfl ki_m1 c10
      refine lv_aload_n hx hb dX9_beeline_35 rfl (lv_at hl 2 rfl) ?_
      refine lv_iload_n hx hb dX9_beeline_36 rfl (lv_at hl 1 rfl) ?_
      refine lv_iload hx hb dX9_beeline_37 (lv_at hl 0 rfl) ?_
      refine k_i (wc := [(h0, oX9 b), (b 1, oX0 bt t_lines t_span t_rule t_odds t_wide t_high t_creeks t_houses t_widows t_acts), (bt 10, .inl (cI, 12, .inl t_f10)), (bt 18, .inl (cI, 30, .inl t_f18)), (b 7, oX3 z0 k_cells k_across k_down)]) (wr := []) hP hD hS hA [0, 4, 1, 2, 3] [] rfl rfl rfl (by decide) (va_runV (As := [.int r2, .int r6]) (rest := []) ⟨hx, hb, hml, hown, hts⟩ (f_X9_straightWay l G cI cJ cZ cB cQ _ h0 r2 r6 b bt t_lines t_span t_rule t_odds t_wide t_high t_creeks t_houses t_widows t_acts t_f10 t_f18 k_cells k_across k_down hl_t_span hh_t_span hl_t_rule hh_t_rule hl_t_odds hh_t_odds hl_t_wide hh_t_wide hl_t_high hh_t_high hl_t_creeks hh_t_creeks hl_t_houses hh_t_houses hl_t_widows hh_t_widows hl_t_acts hh_t_acts) (cwV 2 hts (gV w_736 w_738 wp_40 w_1 w_739) rfl rfl rfl ⟨rfl, hd_X9_straightWay⟩ ⟨Nat.le_of_ble_eq_true rfl, Nat.le_of_ble_eq_true rfl⟩) (mV hK hZ hP hD [0, 4, 1, 2, 3] rfl rfl [.int r2, .int r6] 0 9 rfl rfl) rfl rfl hl.1 rfl (lv_room (Nat.le_of_ble_eq_true rfl)) dX9_beeline_39 ⟨Nat.le_of_ble_eq_true rfl, Nat.le_of_ble_eq_true rfl⟩) (fun r11 u12 H locs hw13 hP hD hS => ?_)
      obtain ⟨k_cellso14, k_acrosso15, k_downo16⟩ := u12
      try dsimp only at hw13
      have hP : va_P G vwCl [(h0, oX9 b), (b 1, oX0 bt t_lines t_span t_rule t_odds t_wide t_high t_creeks t_houses t_widows t_acts), (bt 10, .inl (cI, 12, .inl t_f10)), (bt 18, .inl (cI, 30, .inl t_f18)), (b 7, oX3 z0 k_cellso14 k_acrosso15 k_downo16)] H := hP
      have hD : va_D A [(h0, oX9 b), (b 1, oX0 bt t_lines t_span t_rule t_odds t_wide t_high t_creeks t_houses t_widows t_acts), (bt 10, .inl (cI, 12, .inl t_f10)), (bt 18, .inl (cI, 30, .inl t_f18)), (b 7, oX3 z0 k_cellso14 k_acrosso15 k_downo16)] := hD
      exact hret _ _ _ _ r11 (k_cellso14, k_acrosso15, k_downo16) hP hD hS dX9_beeline_42 trivial
    · have c10 := i_eq rfl ki_m1 c10
      refine lv_bipush (v := (-2)) hx hb dX9_beeline_32 (by decide) ?_
      exact hret _ _ _ _ (-2) (k_cells, k_across, k_down) (hP.sub (ws' := [(h0, oX9 b), (b 1, oX0 bt t_lines t_span t_rule t_odds t_wide t_high t_creeks t_houses t_widows t_acts), (bt 10, .inl (cI, 12, .inl t_f10)), (bt 18, .inl (cI, 30, .inl t_f18)), (b 7, oX3 z0 k_cells k_across k_down)]) [0, 4, 1, 2, 3] rfl) (hD.sub (ws' := [(h0, oX9 b), (b 1, oX0 bt t_lines t_span t_rule t_odds t_wide t_high t_creeks t_houses t_widows t_acts), (bt 10, .inl (cI, 12, .inl t_f10)), (bt 18, .inl (cI, 30, .inl t_f18)), (b 7, oX3 z0 k_cells k_across k_down)]) [0, 4, 1, 2, 3] rfl rfl) hS dX9_beeline_34 trivial
set_option maxHeartbeats 4000000 in
set_option maxRecDepth 100000 in
theorem f_X9_crossing (l : Launch) (G : va_G) (cI cJ cZ cB cQ : ClassId) (sz : Nat) (h0 : Nat) (b : Nat → Nat) (bt : Nat → Nat) (t_lines : Int32) (t_span : Int32) (t_rule : Int32) (t_odds : Int32) (t_wide : Int32) (t_high : Int32) (t_creeks : Int32) (t_houses : Int32) (t_widows : Int32) (t_acts : Int32) (bn : Nat → Nat) (n_field : Int64) (n_houses : Int32) (n_f3 : Nat → Int64) (hl_t_span : 0 ≤ t_span.toInt) (hh_t_span : t_span.toInt ≤ 12) (hl_t_rule : 0 ≤ t_rule.toInt) (hh_t_rule : t_rule.toInt ≤ 3) (hl_t_odds : 0 ≤ t_odds.toInt) (hh_t_odds : t_odds.toInt ≤ 10) (hl_t_wide : 0 ≤ t_wide.toInt) (hh_t_wide : t_wide.toInt ≤ 8) (hl_t_high : 0 ≤ t_high.toInt) (hh_t_high : t_high.toInt ≤ 8) (hl_t_creeks : 0 ≤ t_creeks.toInt) (hh_t_creeks : t_creeks.toInt ≤ 12) (hl_t_houses : 0 ≤ t_houses.toInt) (hh_t_houses : t_houses.toInt ≤ 6) (hl_t_widows : 0 ≤ t_widows.toInt) (hh_t_widows : t_widows.toInt ≤ 7) (hl_t_acts : 0 ≤ t_acts.toInt) (hh_t_acts : t_acts.toInt ≤ 30) (hl_n_houses : 0 ≤ n_houses.toInt) (hh_n_houses : n_houses.toInt ≤ 6) : CI l yX9_crossing (wl_ yX9_crossing cX9_crossing 5 (some .int)) ({ frames := 2, cells := 0, slots := 0, locals := 45 } : Room) G (TY cI cJ cZ cB cQ) [.ref h0] [(h0, oX9 b), (b 1, oX0 bt t_lines t_span t_rule t_odds t_wide t_high t_creeks t_houses t_widows t_acts), (b 4, oX6 bn n_field n_houses), (bn 3, .inl (cJ, 7, .inr (.inl n_f3)))] sz (fun (r : Int32) (u : Unit) => True) (fun _ : Unit => [(h0, oX9 b), (b 1, oX0 bt t_lines t_span t_rule t_odds t_wide t_high t_creeks t_houses t_widows t_acts), (b 4, oX6 bn n_field n_houses), (bn 3, .inl (cJ, 7, .inr (.inl n_f3)))]) 0 0 := by
  refine CI.go (cc := cX9_crossing) (maxL := 5) (ret := (some .int)) (by decide) rfl (Nat.le_of_ble_eq_true rfl) ?_
  intro p e s m below meth c A ls Q hBd hret
  obtain ⟨hx, hb, hr, hml, hts, hown, hlk, hnm, hP, hK, hD, hA, hZ, hl⟩ := hBd
  have hown : s.vm.findClass RX9 = some m.cls := hown
  have hl : lv_has ls 5 [(0, .ref h0)] := hl
  have hS : va_S A s.heap s.heap [] := va_S.rf
  refine lv_aload_n hx hb dX9_crossing_0 rfl (lv_at hl 0 rfl) ?_
  refine va_get (D := G) (ci := 9) (v := .ref (b 1)) (C := RX9) (T := TX9) (N := 11) hx hb hts iG_X9 hown hK hP 0 rfl rfl 1 (by decide) (hts _ w_352) (fun _ h9 => h9) rfl dX9_crossing_1 ?_
  refine va_getN (D := G) (ci := 0) (v := .int t_lines) (C := RX0) (T := TX0) (N := 19) hx hb hts iG_X0 hown hK hP 1 rfl rfl 0 (by decide) (nz_use hZ nw_57 rfl) (fun _ h9 => h9) rfl dX9_crossing_4 ?_
  refine lv_if_ne (tgt := 13) hx hb dX9_crossing_7 (by decide) (fun c1 => ?_) (fun c1 => ?_)
  · have c1 := i_ne rfl ki_0 c1
    refine lv_iconst (v := 0) hx hb dX9_crossing_13 (by decide) ?_
    refine lv_istore_n (lv' := [(1, .int 0), (0, .ref h0)]) hx hb dX9_crossing_14 rfl hl (by decide) rfl (fun ls hl => ?_)
    refine lv_iconst (v := (-1)) hx hb dX9_crossing_15 (by decide) ?_
    refine lv_istore_n (lv' := [(2, .int (-1)), (1, .int 0), (0, .ref h0)]) hx hb dX9_crossing_16 rfl hl (by decide) rfl (fun ls hl => ?_)
    refine lv_iconst (v := 0) hx hb dX9_crossing_17 (by decide) ?_
    refine lv_istore_n (lv' := [(3, .int 0), (2, .int (-1)), (1, .int 0), (0, .ref h0)]) hx hb dX9_crossing_18 rfl hl (by decide) rfl (fun ls hl => ?_)
    have lp2 : ∀ (n3 : Nat) (x4 : Int32) (x5 : Int32) (x6 : Int32), 0 ≤ x4.toInt → x4.toInt ≤ 63 → (-1) ≤ x5.toInt → 0 ≤ x6.toInt → x6.toInt ≤ 64 → 64 - x6.toInt < (n3 : Int) → ∀ (H : Heap) (locs : List Loc), va_P G vwCl [(h0, oX9 b), (b 1, oX0 bt t_lines t_span t_rule t_odds t_wide t_high t_creeks t_houses t_widows t_acts), (b 4, oX6 bn n_field n_houses), (bn 3, .inl (cJ, 7, .inr (.inl n_f3)))] H → va_D A [(h0, oX9 b), (b 1, oX0 bt t_lines t_span t_rule t_odds t_wide t_high t_creeks t_houses t_widows t_acts), (b 4, oX6 bn n_field n_houses), (bn 3, .inl (cJ, 7, .inr (.inl n_f3)))] → va_S A s.heap H locs → ∀ (ls : Array Slot), lv_has ls 5 [(3, .int x6), (2, .int x5), (1, .int x4), (0, .ref h0)] → W p l e ({ frames := 2, cells := 0, slots := 0, locals := 45 } : Room) s m ([.ref h0] : List Value).toArray below meth c H locs 0 0 Q (F0 m 19 ls []) := by
      intro n3
      induction n3 with
      | zero =>
        intro x4 x5 x6 k7 k8 k9 k10 k11 mm13
        exact absurd mm13 (by have q9 := fb_rng x6; omega)
      | succ n3 ih12 =>
        intro x4 x5 x6 k7 k8 k9 k10 k11 mm13 H locs hP hD hS ls hl
        refine lv_iload_n hx hb dX9_crossing_19 rfl (lv_at hl 0 rfl) ?_
        refine lv_bipush (v := 64) hx hb dX9_crossing_20 (by decide) ?_
        refine lv_icmp_ge (tgt := 52) hx hb dX9_crossing_22 (by decide) (fun c14 => ?_) (fun c14 => ?_)
        · have c14 := i_le ki_64 rfl c14
          refine lv_iload_n hx hb dX9_crossing_52 rfl (lv_at hl 1 rfl) ?_
          refine k_i (wc := []) (wr := [(h0, oX9 b), (b 1, oX0 bt t_lines t_span t_rule t_odds t_wide t_high t_creeks t_houses t_widows t_acts), (b 4, oX6 bn n_field n_houses), (bn 3, .inl (cJ, 7, .inr (.inl n_f3)))]) hP hD hS hA [] [0, 1, 2, 3] rfl rfl rfl (by decide) (va_runS (As := [.int x5]) (rest := []) ⟨hx, hb, hml, hown, hts⟩ (f_X9_cellOf l G cI cJ cZ cB cQ _ x5) (va_cwS 1 hts (gS w_672 w_673 w_1 w_674) rfl rfl rfl hd_X9_cellOf ⟨Nat.le_of_ble_eq_true rfl, Nat.le_of_ble_eq_true rfl⟩) (mS hK hZ hP hD [] rfl rfl [.int x5]) rfl rfl hl.1 rfl (lv_room (Nat.le_of_ble_eq_true rfl)) dX9_crossing_53 ⟨Nat.le_of_ble_eq_true rfl, Nat.le_of_ble_eq_true rfl⟩) (fun r15 u16 H locs hw17 hP hD hS => ?_)
          try dsimp only at hw17
          have hP : va_P G vwCl [(h0, oX9 b), (b 1, oX0 bt t_lines t_span t_rule t_odds t_wide t_high t_creeks t_houses t_widows t_acts), (b 4, oX6 bn n_field n_houses), (bn 3, .inl (cJ, 7, .inr (.inl n_f3)))] H := hP
          have hD : va_D A [(h0, oX9 b), (b 1, oX0 bt t_lines t_span t_rule t_odds t_wide t_high t_creeks t_houses t_widows t_acts), (b 4, oX6 bn n_field n_houses), (bn 3, .inl (cJ, 7, .inr (.inl n_f3)))] := hD
          exact hret _ _ _ _ r15 () hP hD hS dX9_crossing_56 trivial
        · have c14 := i_nle ki_64 rfl c14
          refine lv_aload_n hx hb dX9_crossing_25 rfl (lv_at hl 3 rfl) ?_
          refine lv_iload_n hx hb dX9_crossing_26 rfl (lv_at hl 0 rfl) ?_
          refine k_i (wc := [(h0, oX9 b), (b 1, oX0 bt t_lines t_span t_rule t_odds t_wide t_high t_creeks t_houses t_widows t_acts), (b 4, oX6 bn n_field n_houses), (bn 3, .inl (cJ, 7, .inr (.inl n_f3)))]) (wr := []) hP hD hS hA [0, 1, 2, 3] [] rfl rfl rfl (by decide) (va_runV (As := [.int x6]) (rest := []) ⟨hx, hb, hml, hown, hts⟩ (f_X9_widowsIn l G cI cJ cZ cB cQ _ h0 x6 b bt t_lines t_span t_rule t_odds t_wide t_high t_creeks t_houses t_widows t_acts bn n_field n_houses n_f3 hl_t_span hh_t_span hl_t_rule hh_t_rule hl_t_odds hh_t_odds hl_t_wide hh_t_wide hl_t_high hh_t_high hl_t_creeks hh_t_creeks hl_t_houses hh_t_houses hl_t_widows hh_t_widows hl_t_acts hh_t_acts hl_n_houses hh_n_houses) (cwV 1 hts (gV w_861 w_863 wp_52 w_1 w_864) rfl rfl rfl ⟨rfl, hd_X9_widowsIn⟩ ⟨Nat.le_of_ble_eq_true rfl, Nat.le_of_ble_eq_true rfl⟩) (mV hK hZ hP hD [0, 1, 2, 3] rfl rfl [.int x6] 0 9 rfl rfl) rfl rfl hl.1 rfl (lv_room (Nat.le_of_ble_eq_true rfl)) dX9_crossing_27 ⟨Nat.le_of_ble_eq_true rfl, Nat.le_of_ble_eq_true rfl⟩) (fun r18 u19 H locs hw20 hP hD hS => ?_)
          try dsimp only at hw20
          have hP : va_P G vwCl [(h0, oX9 b), (b 1, oX0 bt t_lines t_span t_rule t_odds t_wide t_high t_creeks t_houses t_widows t_acts), (b 4, oX6 bn n_field n_houses), (bn 3, .inl (cJ, 7, .inr (.inl n_f3)))] H := hP
          have hD : va_D A [(h0, oX9 b), (b 1, oX0 bt t_lines t_span t_rule t_odds t_wide t_high t_creeks t_houses t_widows t_acts), (b 4, oX6 bn n_field n_houses), (bn 3, .inl (cJ, 7, .inr (.inl n_f3)))] := hD
          refine k_i (wc := []) (wr := [(h0, oX9 b), (b 1, oX0 bt t_lines t_span t_rule t_odds t_wide t_high t_creeks t_houses t_widows t_acts), (b 4, oX6 bn n_field n_houses), (bn 3, .inl (cJ, 7, .inr (.inl n_f3)))]) hP hD hS hA [] [0, 1, 2, 3] rfl rfl rfl (by decide) (va_runS (As := [.int r18]) (rest := []) ⟨hx, hb, hml, hown, hts⟩ (f_J6_bitCount_0f7a4 l G cI cJ cZ cB cQ _ r18) (va_cwS 1 hts (gS w_865 w_798 w_19 w_799) rfl rfl rfl hd_J6_bitCount_0f7a4 ⟨Nat.le_of_ble_eq_true rfl, Nat.le_of_ble_eq_true rfl⟩) (mS hK hZ hP hD [] rfl rfl [.int r18]) rfl rfl hl.1 rfl (lv_room (Nat.le_of_ble_eq_true rfl)) dX9_crossing_30 ⟨Nat.le_of_ble_eq_true rfl, Nat.le_of_ble_eq_true rfl⟩) (fun r21 u22 H locs hw23 hP hD hS => ?_)
          try dsimp only at hw23
          have hP : va_P G vwCl [(h0, oX9 b), (b 1, oX0 bt t_lines t_span t_rule t_odds t_wide t_high t_creeks t_houses t_widows t_acts), (b 4, oX6 bn n_field n_houses), (bn 3, .inl (cJ, 7, .inr (.inl n_f3)))] H := hP
          have hD : va_D A [(h0, oX9 b), (b 1, oX0 bt t_lines t_span t_rule t_odds t_wide t_high t_creeks t_houses t_widows t_acts), (b 4, oX6 bn n_field n_houses), (bn 3, .inl (cJ, 7, .inr (.inl n_f3)))] := hD
          obtain ⟨w24, w25⟩ : 0 ≤ r21.toInt ∧ r21.toInt ≤ 63 := hw23
          refine lv_istore (lv' := [(4, .int r21), (3, .int x6), (2, .int x5), (1, .int x4), (0, .ref h0)]) hx hb dX9_crossing_33 hl (by decide) rfl (fun ls hl => ?_)
          refine lv_iload hx hb dX9_crossing_35 (lv_at hl 0 rfl) ?_
          refine lv_iload_n hx hb dX9_crossing_37 rfl (lv_at hl 3 rfl) ?_
          refine lv_icmp_le (tgt := 46) hx hb dX9_crossing_38 (by decide) (fun c26 => ?_) (fun c26 => ?_)
          · have c26 := i_le rfl rfl c26
            obtain ⟨v27, ev27⟩ : ∃ y : Int32, y = x6 + 1 := ⟨_, rfl⟩
            have tv27 : v27.toInt = x6.toInt + 1 := ti_add rfl ki_1 ev27 (by omega) (by omega)
            refine lv_iinc (v := v27) (lv' := [(3, .int v27), (4, .int r21), (2, .int x5), (1, .int x4), (0, .ref h0)]) hx hb dX9_crossing_46 hl (k := 1) rfl (by rw [ev27]; rfl) (by decide) rfl (fun ls hl => ?_)
            refine lv_goto (tgt := 19) hx hb dX9_crossing_49 (by decide) ?_
            exact ih12 x4 x5 v27 k7 k8 k9 (by omega) (by omega) (by omega) _ _ hP hD hS ls (lv_sub hl [0, 2, 3, 4] rfl)
          · have c26 := i_nle rfl rfl c26
            refine lv_iload hx hb dX9_crossing_41 (lv_at hl 0 rfl) ?_
            refine lv_istore_n (lv' := [(1, .int r21), (4, .int r21), (3, .int x6), (2, .int x5), (0, .ref h0)]) hx hb dX9_crossing_43 rfl hl (by decide) rfl (fun ls hl => ?_)
            refine lv_iload_n hx hb dX9_crossing_44 rfl (lv_at hl 2 rfl) ?_
            refine lv_istore_n (lv' := [(2, .int x6), (1, .int r21), (4, .int r21), (3, .int x6), (0, .ref h0)]) hx hb dX9_crossing_45 rfl hl (by decide) rfl (fun ls hl => ?_)
            obtain ⟨v28, ev28⟩ : ∃ y : Int32, y = x6 + 1 := ⟨_, rfl⟩
            have tv28 : v28.toInt = x6.toInt + 1 := ti_add rfl ki_1 ev28 (by omega) (by omega)
            refine lv_iinc (v := v28) (lv' := [(3, .int v28), (2, .int x6), (1, .int r21), (4, .int r21), (0, .ref h0)]) hx hb dX9_crossing_46 hl (k := 3) rfl (by rw [ev28]; rfl) (by decide) rfl (fun ls hl => ?_)
            refine lv_goto (tgt := 19) hx hb dX9_crossing_49 (by decide) ?_
            exact ih12 r21 x6 v28 (by omega) w25 (by omega) (by omega) (by omega) (by omega) _ _ hP hD hS ls (lv_sub hl [0, 1, 2, 4] rfl)
    exact lp2 65 0 (-1) 0 (by rw [ki_0]; decide) (by rw [ki_0]; decide) (by rw [ki_m1]; decide) (by rw [ki_0]; decide) (by rw [ki_0]; decide) (by rw [ki_0]; decide) _ _ hP hD hS ls (lv_sub hl [0, 1, 2, 3] rfl)
  · have c1 := i_eq rfl ki_0 c1
    refine lv_bipush (v := (-2)) hx hb dX9_crossing_10 (by decide) ?_
    exact hret _ _ _ _ (-2) () hP hD hS dX9_crossing_12 trivial
set_option maxHeartbeats 4000000 in
set_option maxRecDepth 100000 in
theorem f_X9_shared (l : Launch) (G : va_G) (cI cJ cZ cB cQ : ClassId) (sz : Nat) (h0 : Nat) (p0 : Int32) (p1 : Int32) (b : Nat → Nat) (bt : Nat → Nat) (t_lines : Int32) (t_span : Int32) (t_rule : Int32) (t_odds : Int32) (t_wide : Int32) (t_high : Int32) (t_creeks : Int32) (t_houses : Int32) (t_widows : Int32) (t_acts : Int32) (bn : Nat → Nat) (n_field : Int64) (n_houses : Int32) (n_f3 : Nat → Int64) (hl_t_span : 0 ≤ t_span.toInt) (hh_t_span : t_span.toInt ≤ 12) (hl_t_rule : 0 ≤ t_rule.toInt) (hh_t_rule : t_rule.toInt ≤ 3) (hl_t_odds : 0 ≤ t_odds.toInt) (hh_t_odds : t_odds.toInt ≤ 10) (hl_t_wide : 0 ≤ t_wide.toInt) (hh_t_wide : t_wide.toInt ≤ 8) (hl_t_high : 0 ≤ t_high.toInt) (hh_t_high : t_high.toInt ≤ 8) (hl_t_creeks : 0 ≤ t_creeks.toInt) (hh_t_creeks : t_creeks.toInt ≤ 12) (hl_t_houses : 0 ≤ t_houses.toInt) (hh_t_houses : t_houses.toInt ≤ 6) (hl_t_widows : 0 ≤ t_widows.toInt) (hh_t_widows : t_widows.toInt ≤ 7) (hl_t_acts : 0 ≤ t_acts.toInt) (hh_t_acts : t_acts.toInt ≤ 30) (hl_n_houses : 0 ≤ n_houses.toInt) (hh_n_houses : n_houses.toInt ≤ 6) : CI l yX9_shared (wl_ yX9_shared cX9_shared 3 (some .int)) ({ frames := 1, cells := 0, slots := 0, locals := 22 } : Room) G (TY cI cJ cZ cB cQ) [.ref h0, .int p0, .int p1] [(h0, oX9 b), (b 1, oX0 bt t_lines t_span t_rule t_odds t_wide t_high t_creeks t_houses t_widows t_acts), (b 4, oX6 bn n_field n_houses), (bn 3, .inl (cJ, 7, .inr (.inl n_f3)))] sz (fun (r : Int32) (u : Unit) => True) (fun _ : Unit => [(h0, oX9 b), (b 1, oX0 bt t_lines t_span t_rule t_odds t_wide t_high t_creeks t_houses t_widows t_acts), (b 4, oX6 bn n_field n_houses), (bn 3, .inl (cJ, 7, .inr (.inl n_f3)))]) 0 0 := by
  refine CI.go (cc := cX9_shared) (maxL := 3) (ret := (some .int)) (by decide) rfl (Nat.le_of_ble_eq_true rfl) ?_
  intro p e s m below meth c A ls Q hBd hret
  obtain ⟨hx, hb, hr, hml, hts, hown, hlk, hnm, hP, hK, hD, hA, hZ, hl⟩ := hBd
  have hown : s.vm.findClass RX9 = some m.cls := hown
  have hl : lv_has ls 3 [(0, .ref h0), (1, .int p0), (2, .int p1)] := hl
  have hS : va_S A s.heap s.heap [] := va_S.rf
  refine lv_aload_n hx hb dX9_shared_0 rfl (lv_at hl 0 rfl) ?_
  refine va_get (D := G) (ci := 9) (v := .ref (b 1)) (C := RX9) (T := TX9) (N := 11) hx hb hts iG_X9 hown hK hP 0 rfl rfl 1 (by decide) (hts _ w_352) (fun _ h9 => h9) rfl dX9_shared_1 ?_
  refine lv_iload_n hx hb dX9_shared_4 rfl (lv_at hl 1 rfl) ?_
  obtain ⟨v1, ev1⟩ : ∃ y : Int64, p0.toInt64 = y := ⟨_, rfl⟩
  have tv1 : v1.toInt = p0.toInt := ti_wide rfl ev1
  refine lv_i2l (v := v1) hx hb dX9_shared_5 ev1 ?_
  refine k_i (wc := [(b 1, oX0 bt t_lines t_span t_rule t_odds t_wide t_high t_creeks t_houses t_widows t_acts)]) (wr := [(h0, oX9 b), (b 4, oX6 bn n_field n_houses), (bn 3, .inl (cJ, 7, .inr (.inl n_f3)))]) hP hD hS hA [1] [0, 2, 3] rfl rfl rfl (by decide) (va_runVN (As := [.long v1]) (rest := []) ⟨hx, hb, hml, hown, hts⟩ (f_X0_hasWidow l G cI cJ cZ cB cQ _ (b 1) v1 p0.toInt bt t_lines t_span t_rule t_odds t_wide t_high t_creeks t_houses t_widows t_acts tv1 hl_t_span hh_t_span hl_t_rule hh_t_rule hl_t_odds hh_t_odds hl_t_wide hh_t_wide hl_t_high hh_t_high hl_t_creeks hh_t_creeks hl_t_houses hh_t_houses hl_t_widows hh_t_widows hl_t_acts hh_t_acts) ⟨va_cnB (host := "WidowRoads") 1 hts (gW w_671) rfl rfl rfl (nz_nw hZ nw_668 rfl) (hts _ w_4) hd_X0_hasWidow ⟨Nat.le_of_ble_eq_true rfl, Nat.le_of_ble_eq_true rfl⟩, (hts _ w_670), (hts _ wp_35)⟩ (mV hK hZ hP hD [1] rfl rfl [.long v1] 1 0 rfl rfl) rfl rfl hl.1 rfl (lv_room (Nat.le_of_ble_eq_true rfl)) dX9_shared_6 ⟨Nat.le_of_ble_eq_true rfl, Nat.le_of_ble_eq_true rfl⟩) (fun r2 u3 H locs hw4 hP hD hS => ?_)
  try dsimp only at hw4
  have hP : va_P G vwCl [(h0, oX9 b), (b 4, oX6 bn n_field n_houses), (bn 3, .inl (cJ, 7, .inr (.inl n_f3))), (b 1, oX0 bt t_lines t_span t_rule t_odds t_wide t_high t_creeks t_houses t_widows t_acts)] H := hP
  have hD : va_D A [(h0, oX9 b), (b 4, oX6 bn n_field n_houses), (bn 3, .inl (cJ, 7, .inr (.inl n_f3))), (b 1, oX0 bt t_lines t_span t_rule t_odds t_wide t_high t_creeks t_houses t_widows t_acts)] := hD
  rcases hw4 with ⟨rfl, a6, a7⟩ | ⟨rfl, a8⟩
  · skip
    refine lv_if_eq (tgt := 24) hx hb dX9_shared_9 (by decide) (fun c9 => absurd c9 (by decide)) (fun c9 => ?_)
    refine lv_aload_n hx hb dX9_shared_12 rfl (lv_at hl 0 rfl) ?_
    refine va_get (D := G) (ci := 9) (v := .ref (b 1)) (C := RX9) (T := TX9) (N := 11) hx hb hts iG_X9 hown hK hP 0 rfl rfl 1 (by decide) (hts _ w_352) (fun _ h9 => h9) rfl dX9_shared_13 ?_
    refine lv_iload_n hx hb dX9_shared_16 rfl (lv_at hl 2 rfl) ?_
    obtain ⟨v10, ev10⟩ : ∃ y : Int64, p1.toInt64 = y := ⟨_, rfl⟩
    have tv10 : v10.toInt = p1.toInt := ti_wide rfl ev10
    refine lv_i2l (v := v10) hx hb dX9_shared_17 ev10 ?_
    refine k_i (wc := [(b 1, oX0 bt t_lines t_span t_rule t_odds t_wide t_high t_creeks t_houses t_widows t_acts)]) (wr := [(h0, oX9 b), (b 4, oX6 bn n_field n_houses), (bn 3, .inl (cJ, 7, .inr (.inl n_f3)))]) hP hD hS hA [3] [0, 1, 2] rfl rfl rfl (by decide) (va_runVN (As := [.long v10]) (rest := []) ⟨hx, hb, hml, hown, hts⟩ (f_X0_hasWidow l G cI cJ cZ cB cQ _ (b 1) v10 p1.toInt bt t_lines t_span t_rule t_odds t_wide t_high t_creeks t_houses t_widows t_acts tv10 hl_t_span hh_t_span hl_t_rule hh_t_rule hl_t_odds hh_t_odds hl_t_wide hh_t_wide hl_t_high hh_t_high hl_t_creeks hh_t_creeks hl_t_houses hh_t_houses hl_t_widows hh_t_widows hl_t_acts hh_t_acts) ⟨va_cnB (host := "WidowRoads") 1 hts (gW w_671) rfl rfl rfl (nz_nw hZ nw_668 rfl) (hts _ w_4) hd_X0_hasWidow ⟨Nat.le_of_ble_eq_true rfl, Nat.le_of_ble_eq_true rfl⟩, (hts _ w_670), (hts _ wp_35)⟩ (mV hK hZ hP hD [3] rfl rfl [.long v10] 3 0 rfl rfl) rfl rfl hl.1 rfl (lv_room (Nat.le_of_ble_eq_true rfl)) dX9_shared_18 ⟨Nat.le_of_ble_eq_true rfl, Nat.le_of_ble_eq_true rfl⟩) (fun r11 u12 H locs hw13 hP hD hS => ?_)
    try dsimp only at hw13
    have hP : va_P G vwCl [(h0, oX9 b), (b 4, oX6 bn n_field n_houses), (bn 3, .inl (cJ, 7, .inr (.inl n_f3))), (b 1, oX0 bt t_lines t_span t_rule t_odds t_wide t_high t_creeks t_houses t_widows t_acts)] H := hP
    have hD : va_D A [(h0, oX9 b), (b 4, oX6 bn n_field n_houses), (bn 3, .inl (cJ, 7, .inr (.inl n_f3))), (b 1, oX0 bt t_lines t_span t_rule t_odds t_wide t_high t_creeks t_houses t_widows t_acts)] := hD
    rcases hw13 with ⟨rfl, a15, a16⟩ | ⟨rfl, a17⟩
    · skip
      refine lv_if_ne (tgt := 27) hx hb dX9_shared_21 (by decide) (fun c18 => ?_) (fun c18 => absurd c18 (by decide))
      refine lv_aload_n hx hb dX9_shared_27 rfl (lv_at hl 0 rfl) ?_
      refine va_get (D := G) (ci := 9) (v := .ref (b 4)) (C := RX9) (T := TX9) (N := 11) hx hb hts iG_X9 hown hK hP 0 rfl rfl 4 (by decide) (hts _ w_355) (fun _ h9 => h9) rfl dX9_shared_28 ?_
      refine va_getN (D := G) (ci := 6) (v := .ref (bn 3)) (C := RX6) (T := TX6) (N := 12) hx hb hts iG_X6 hown hK hP 1 rfl rfl 3 (by decide) (nz_use hZ nw_239 rfl) (fun _ h9 => h9) rfl dX9_shared_31 ?_
      refine lv_iload_n hx hb dX9_shared_34 rfl (lv_at hl 1 rfl) ?_
      refine va_lald hx hb hK hP 2 1 rfl rfl (ix_in rfl (by omega) (by omega)) dX9_shared_35 ?_
      refine lv_topl (fun v19 ev19 => ?_)
      refine lv_aload_n hx hb dX9_shared_36 rfl (lv_at hl 0 rfl) ?_
      refine va_get (D := G) (ci := 9) (v := .ref (b 4)) (C := RX9) (T := TX9) (N := 11) hx hb hts iG_X9 hown hK hP 0 rfl rfl 4 (by decide) (hts _ w_355) (fun _ h9 => h9) rfl dX9_shared_37 ?_
      refine va_getN (D := G) (ci := 6) (v := .ref (bn 3)) (C := RX6) (T := TX6) (N := 12) hx hb hts iG_X6 hown hK hP 1 rfl rfl 3 (by decide) (nz_use hZ nw_239 rfl) (fun _ h9 => h9) rfl dX9_shared_40 ?_
      refine lv_iload_n hx hb dX9_shared_43 rfl (lv_at hl 2 rfl) ?_
      refine va_lald hx hb hK hP 2 1 rfl rfl (ix_in rfl (by omega) (by omega)) dX9_shared_44 ?_
      refine lv_topl (fun v20 ev20 => ?_)
      refine lv_land hx hb dX9_shared_45 ?_
      refine lv_topl (fun v21 ev21 => ?_)
      refine k_i (wc := []) (wr := [(h0, oX9 b), (b 4, oX6 bn n_field n_houses), (bn 3, .inl (cJ, 7, .inr (.inl n_f3))), (b 1, oX0 bt t_lines t_span t_rule t_odds t_wide t_high t_creeks t_houses t_widows t_acts)]) hP hD hS hA [] [0, 1, 2, 3] rfl rfl rfl (by decide) (va_runS (As := [.long v21]) (rest := []) ⟨hx, hb, hml, hown, hts⟩ (f_J13_bitCount_95d88 l G cI cJ cZ cB cQ _ v21) (va_cwS 1 hts (gS w_639 w_640 w_18 w_641) rfl rfl rfl hd_J13_bitCount_95d88 ⟨Nat.le_of_ble_eq_true rfl, Nat.le_of_ble_eq_true rfl⟩) (mS hK hZ hP hD [] rfl rfl [.long v21]) rfl rfl hl.1 rfl (lv_room (Nat.le_of_ble_eq_true rfl)) dX9_shared_46 ⟨Nat.le_of_ble_eq_true rfl, Nat.le_of_ble_eq_true rfl⟩) (fun r22 u23 H locs hw24 hP hD hS => ?_)
      try dsimp only at hw24
      have hP : va_P G vwCl [(h0, oX9 b), (b 4, oX6 bn n_field n_houses), (bn 3, .inl (cJ, 7, .inr (.inl n_f3))), (b 1, oX0 bt t_lines t_span t_rule t_odds t_wide t_high t_creeks t_houses t_widows t_acts)] H := hP
      have hD : va_D A [(h0, oX9 b), (b 4, oX6 bn n_field n_houses), (bn 3, .inl (cJ, 7, .inr (.inl n_f3))), (b 1, oX0 bt t_lines t_span t_rule t_odds t_wide t_high t_creeks t_houses t_widows t_acts)] := hD
      obtain ⟨w25, w26⟩ : 0 ≤ r22.toInt ∧ r22.toInt ≤ 127 := hw24
      exact hret _ _ _ _ r22 () (hP.sub (ws' := [(h0, oX9 b), (b 1, oX0 bt t_lines t_span t_rule t_odds t_wide t_high t_creeks t_houses t_widows t_acts), (b 4, oX6 bn n_field n_houses), (bn 3, .inl (cJ, 7, .inr (.inl n_f3)))]) [0, 3, 1, 2] rfl) (hD.sub (ws' := [(h0, oX9 b), (b 1, oX0 bt t_lines t_span t_rule t_odds t_wide t_high t_creeks t_houses t_widows t_acts), (b 4, oX6 bn n_field n_houses), (bn 3, .inl (cJ, 7, .inr (.inl n_f3)))]) [0, 3, 1, 2] rfl rfl) hS dX9_shared_49 trivial
    · skip
      refine lv_if_ne (tgt := 27) hx hb dX9_shared_21 (by decide) (fun c27 => absurd (by decide) c27) (fun c27 => ?_)
      refine lv_bipush (v := (-2)) hx hb dX9_shared_24 (by decide) ?_
      exact hret _ _ _ _ (-2) () (hP.sub (ws' := [(h0, oX9 b), (b 1, oX0 bt t_lines t_span t_rule t_odds t_wide t_high t_creeks t_houses t_widows t_acts), (b 4, oX6 bn n_field n_houses), (bn 3, .inl (cJ, 7, .inr (.inl n_f3)))]) [0, 3, 1, 2] rfl) (hD.sub (ws' := [(h0, oX9 b), (b 1, oX0 bt t_lines t_span t_rule t_odds t_wide t_high t_creeks t_houses t_widows t_acts), (b 4, oX6 bn n_field n_houses), (bn 3, .inl (cJ, 7, .inr (.inl n_f3)))]) [0, 3, 1, 2] rfl rfl) hS dX9_shared_26 trivial
  · skip
    refine lv_if_eq (tgt := 24) hx hb dX9_shared_9 (by decide) (fun c28 => ?_) (fun c28 => absurd (by decide) c28)
    refine lv_bipush (v := (-2)) hx hb dX9_shared_24 (by decide) ?_
    exact hret _ _ _ _ (-2) () (hP.sub (ws' := [(h0, oX9 b), (b 1, oX0 bt t_lines t_span t_rule t_odds t_wide t_high t_creeks t_houses t_widows t_acts), (b 4, oX6 bn n_field n_houses), (bn 3, .inl (cJ, 7, .inr (.inl n_f3)))]) [0, 3, 1, 2] rfl) (hD.sub (ws' := [(h0, oX9 b), (b 1, oX0 bt t_lines t_span t_rule t_odds t_wide t_high t_creeks t_houses t_widows t_acts), (b 4, oX6 bn n_field n_houses), (bn 3, .inl (cJ, 7, .inr (.inl n_f3)))]) [0, 3, 1, 2] rfl rfl) hS dX9_shared_26 trivial
set_option maxHeartbeats 4000000 in
set_option maxRecDepth 100000 in
theorem f_X9_walked (l : Launch) (G : va_G) (cI cJ cZ cB cQ : ClassId) (sz : Nat) (h0 : Nat) (p0 : Int32) (b : Nat → Nat) (bt : Nat → Nat) (t_lines : Int32) (t_span : Int32) (t_rule : Int32) (t_odds : Int32) (t_wide : Int32) (t_high : Int32) (t_creeks : Int32) (t_houses : Int32) (t_widows : Int32) (t_acts : Int32) (bn : Nat → Nat) (n_field : Int64) (n_houses : Int32) (n_f3 : Nat → Int64) (hl_t_span : 0 ≤ t_span.toInt) (hh_t_span : t_span.toInt ≤ 12) (hl_t_rule : 0 ≤ t_rule.toInt) (hh_t_rule : t_rule.toInt ≤ 3) (hl_t_odds : 0 ≤ t_odds.toInt) (hh_t_odds : t_odds.toInt ≤ 10) (hl_t_wide : 0 ≤ t_wide.toInt) (hh_t_wide : t_wide.toInt ≤ 8) (hl_t_high : 0 ≤ t_high.toInt) (hh_t_high : t_high.toInt ≤ 8) (hl_t_creeks : 0 ≤ t_creeks.toInt) (hh_t_creeks : t_creeks.toInt ≤ 12) (hl_t_houses : 0 ≤ t_houses.toInt) (hh_t_houses : t_houses.toInt ≤ 6) (hl_t_widows : 0 ≤ t_widows.toInt) (hh_t_widows : t_widows.toInt ≤ 7) (hl_t_acts : 0 ≤ t_acts.toInt) (hh_t_acts : t_acts.toInt ≤ 30) (hl_n_houses : 0 ≤ n_houses.toInt) (hh_n_houses : n_houses.toInt ≤ 6) : CI l yX9_walked (wl_ yX9_walked cX9_walked 3 (some .int)) ({ frames := 2, cells := 0, slots := 0, locals := 45 } : Room) G (TY cI cJ cZ cB cQ) [.ref h0, .int p0] [(h0, oX9 b), (b 1, oX0 bt t_lines t_span t_rule t_odds t_wide t_high t_creeks t_houses t_widows t_acts), (b 4, oX6 bn n_field n_houses), (bn 3, .inl (cJ, 7, .inr (.inl n_f3)))] sz (fun (r : Int32) (u : Unit) => True) (fun _ : Unit => [(h0, oX9 b), (b 1, oX0 bt t_lines t_span t_rule t_odds t_wide t_high t_creeks t_houses t_widows t_acts), (b 4, oX6 bn n_field n_houses), (bn 3, .inl (cJ, 7, .inr (.inl n_f3)))]) 0 0 := by
  refine CI.go (cc := cX9_walked) (maxL := 3) (ret := (some .int)) (by decide) rfl (Nat.le_of_ble_eq_true rfl) ?_
  intro p e s m below meth c A ls Q hBd hret
  obtain ⟨hx, hb, hr, hml, hts, hown, hlk, hnm, hP, hK, hD, hA, hZ, hl⟩ := hBd
  have hown : s.vm.findClass RX9 = some m.cls := hown
  have hl : lv_has ls 3 [(0, .ref h0), (1, .int p0)] := hl
  have hS : va_S A s.heap s.heap [] := va_S.rf
  refine lv_aload_n hx hb dX9_walked_0 rfl (lv_at hl 0 rfl) ?_
  refine va_get (D := G) (ci := 9) (v := .ref (b 1)) (C := RX9) (T := TX9) (N := 11) hx hb hts iG_X9 hown hK hP 0 rfl rfl 1 (by decide) (hts _ w_352) (fun _ h9 => h9) rfl dX9_walked_1 ?_
  refine lv_iload_n hx hb dX9_walked_4 rfl (lv_at hl 1 rfl) ?_
  obtain ⟨v1, ev1⟩ : ∃ y : Int64, p0.toInt64 = y := ⟨_, rfl⟩
  have tv1 : v1.toInt = p0.toInt := ti_wide rfl ev1
  refine lv_i2l (v := v1) hx hb dX9_walked_5 ev1 ?_
  refine k_i (wc := [(b 1, oX0 bt t_lines t_span t_rule t_odds t_wide t_high t_creeks t_houses t_widows t_acts)]) (wr := [(h0, oX9 b), (b 4, oX6 bn n_field n_houses), (bn 3, .inl (cJ, 7, .inr (.inl n_f3)))]) hP hD hS hA [1] [0, 2, 3] rfl rfl rfl (by decide) (va_runVN (As := [.long v1]) (rest := []) ⟨hx, hb, hml, hown, hts⟩ (f_X0_spotOf l G cI cJ cZ cB cQ _ (b 1) v1 bt t_lines t_span t_rule t_odds t_wide t_high t_creeks t_houses t_widows t_acts hl_t_span hh_t_span hl_t_rule hh_t_rule hl_t_odds hh_t_odds hl_t_wide hh_t_wide hl_t_high hh_t_high hl_t_creeks hh_t_creeks hl_t_houses hh_t_houses hl_t_widows hh_t_widows hl_t_acts hh_t_acts) ⟨va_cnB (host := "WidowRoads") 1 hts (gW w_656) rfl rfl rfl (nz_nw hZ nw_653 rfl) (hts _ w_4) hd_X0_spotOf ⟨Nat.le_of_ble_eq_true rfl, Nat.le_of_ble_eq_true rfl⟩, (hts _ w_655), (hts _ wp_34)⟩ (mV hK hZ hP hD [1] rfl rfl [.long v1] 1 0 rfl rfl) rfl rfl hl.1 rfl (lv_room (Nat.le_of_ble_eq_true rfl)) dX9_walked_6 ⟨Nat.le_of_ble_eq_true rfl, Nat.le_of_ble_eq_true rfl⟩) (fun r2 u3 H locs hw4 hP hD hS => ?_)
  try dsimp only at hw4
  have hP : va_P G vwCl [(h0, oX9 b), (b 4, oX6 bn n_field n_houses), (bn 3, .inl (cJ, 7, .inr (.inl n_f3))), (b 1, oX0 bt t_lines t_span t_rule t_odds t_wide t_high t_creeks t_houses t_widows t_acts)] H := hP
  have hD : va_D A [(h0, oX9 b), (b 4, oX6 bn n_field n_houses), (bn 3, .inl (cJ, 7, .inr (.inl n_f3))), (b 1, oX0 bt t_lines t_span t_rule t_odds t_wide t_high t_creeks t_houses t_widows t_acts)] := hD
  refine lv_istore_n (lv' := [(2, .int r2), (0, .ref h0), (1, .int p0)]) hx hb dX9_walked_9 rfl hl (by decide) rfl (fun ls hl => ?_)
  refine lv_iload_n hx hb dX9_walked_10 rfl (lv_at hl 0 rfl) ?_
  refine lv_iconst (v := (-1)) hx hb dX9_walked_11 (by decide) ?_
  refine lv_icmp_ne (tgt := 20) hx hb dX9_walked_12 (by decide) (fun c5 => ?_) (fun c5 => ?_)
  · have c5 := i_ne rfl ki_m1 c5
    refine lv_aload_n hx hb dX9_walked_20 rfl (lv_at hl 1 rfl) ?_
    refine lv_iload_n hx hb dX9_walked_21 rfl (lv_at hl 0 rfl) ?_
    refine k_i (wc := [(h0, oX9 b), (b 1, oX0 bt t_lines t_span t_rule t_odds t_wide t_high t_creeks t_houses t_widows t_acts), (b 4, oX6 bn n_field n_houses), (bn 3, .inl (cJ, 7, .inr (.inl n_f3)))]) (wr := []) hP hD hS hA [0, 3, 1, 2] [] rfl rfl rfl (by decide) (va_runV (As := [.int r2]) (rest := []) ⟨hx, hb, hml, hown, hts⟩ (f_X9_widowsIn l G cI cJ cZ cB cQ _ h0 r2 b bt t_lines t_span t_rule t_odds t_wide t_high t_creeks t_houses t_widows t_acts bn n_field n_houses n_f3 hl_t_span hh_t_span hl_t_rule hh_t_rule hl_t_odds hh_t_odds hl_t_wide hh_t_wide hl_t_high hh_t_high hl_t_creeks hh_t_creeks hl_t_houses hh_t_houses hl_t_widows hh_t_widows hl_t_acts hh_t_acts hl_n_houses hh_n_houses) (cwV 1 hts (gV w_861 w_863 wp_52 w_1 w_864) rfl rfl rfl ⟨rfl, hd_X9_widowsIn⟩ ⟨Nat.le_of_ble_eq_true rfl, Nat.le_of_ble_eq_true rfl⟩) (mV hK hZ hP hD [0, 3, 1, 2] rfl rfl [.int r2] 0 9 rfl rfl) rfl rfl hl.1 rfl (lv_room (Nat.le_of_ble_eq_true rfl)) dX9_walked_22 ⟨Nat.le_of_ble_eq_true rfl, Nat.le_of_ble_eq_true rfl⟩) (fun r6 u7 H locs hw8 hP hD hS => ?_)
    try dsimp only at hw8
    have hP : va_P G vwCl [(h0, oX9 b), (b 1, oX0 bt t_lines t_span t_rule t_odds t_wide t_high t_creeks t_houses t_widows t_acts), (b 4, oX6 bn n_field n_houses), (bn 3, .inl (cJ, 7, .inr (.inl n_f3)))] H := hP
    have hD : va_D A [(h0, oX9 b), (b 1, oX0 bt t_lines t_span t_rule t_odds t_wide t_high t_creeks t_houses t_widows t_acts), (b 4, oX6 bn n_field n_houses), (bn 3, .inl (cJ, 7, .inr (.inl n_f3)))] := hD
    exact hret _ _ _ _ r6 () hP hD hS dX9_walked_25 trivial
  · have c5 := i_eq rfl ki_m1 c5
    refine lv_bipush (v := (-2)) hx hb dX9_walked_15 (by decide) ?_
    refine lv_goto (tgt := 25) hx hb dX9_walked_17 (by decide) ?_
    exact hret _ _ _ _ (-2) () (hP.sub (ws' := [(h0, oX9 b), (b 1, oX0 bt t_lines t_span t_rule t_odds t_wide t_high t_creeks t_houses t_widows t_acts), (b 4, oX6 bn n_field n_houses), (bn 3, .inl (cJ, 7, .inr (.inl n_f3)))]) [0, 3, 1, 2] rfl) (hD.sub (ws' := [(h0, oX9 b), (b 1, oX0 bt t_lines t_span t_rule t_odds t_wide t_high t_creeks t_houses t_widows t_acts), (b 4, oX6 bn n_field n_houses), (bn 3, .inl (cJ, 7, .inr (.inl n_f3)))]) [0, 3, 1, 2] rfl rfl) hS dX9_walked_25 trivial
set_option maxHeartbeats 4000000 in
set_option maxRecDepth 100000 in
theorem f_X9_first (l : Launch) (G : va_G) (cI cJ cZ cB cQ : ClassId) (sz : Nat) (h0 : Nat) (p0 : Int32) (b : Nat → Nat) (bt : Nat → Nat) (t_lines : Int32) (t_span : Int32) (t_rule : Int32) (t_odds : Int32) (t_wide : Int32) (t_high : Int32) (t_creeks : Int32) (t_houses : Int32) (t_widows : Int32) (t_acts : Int32) (bn : Nat → Nat) (n_field : Int64) (n_houses : Int32) (n_f7 : Nat → Int64) (hl_t_span : 0 ≤ t_span.toInt) (hh_t_span : t_span.toInt ≤ 12) (hl_t_rule : 0 ≤ t_rule.toInt) (hh_t_rule : t_rule.toInt ≤ 3) (hl_t_odds : 0 ≤ t_odds.toInt) (hh_t_odds : t_odds.toInt ≤ 10) (hl_t_wide : 0 ≤ t_wide.toInt) (hh_t_wide : t_wide.toInt ≤ 8) (hl_t_high : 0 ≤ t_high.toInt) (hh_t_high : t_high.toInt ≤ 8) (hl_t_creeks : 0 ≤ t_creeks.toInt) (hh_t_creeks : t_creeks.toInt ≤ 12) (hl_t_houses : 0 ≤ t_houses.toInt) (hh_t_houses : t_houses.toInt ≤ 6) (hl_t_widows : 0 ≤ t_widows.toInt) (hh_t_widows : t_widows.toInt ≤ 7) (hl_t_acts : 0 ≤ t_acts.toInt) (hh_t_acts : t_acts.toInt ≤ 30) (hl_n_houses : 0 ≤ n_houses.toInt) (hh_n_houses : n_houses.toInt ≤ 6) : CI l yX9_first (wl_ yX9_first cX9_first 4 (some .int)) ({ frames := 1, cells := 0, slots := 0, locals := 22 } : Room) G (TY cI cJ cZ cB cQ) [.ref h0, .int p0] [(h0, oX9 b), (b 1, oX0 bt t_lines t_span t_rule t_odds t_wide t_high t_creeks t_houses t_widows t_acts), (b 4, oX6 bn n_field n_houses), (bn 7, .inl (cJ, 13, .inr (.inl n_f7)))] sz (fun (r : Int32) (u : Unit) => True) (fun _ : Unit => [(h0, oX9 b), (b 1, oX0 bt t_lines t_span t_rule t_odds t_wide t_high t_creeks t_houses t_widows t_acts), (b 4, oX6 bn n_field n_houses), (bn 7, .inl (cJ, 13, .inr (.inl n_f7)))]) 0 0 := by
  refine CI.go (cc := cX9_first) (maxL := 4) (ret := (some .int)) (by decide) rfl (Nat.le_of_ble_eq_true rfl) ?_
  intro p e s m below meth c A ls Q hBd hret
  obtain ⟨hx, hb, hr, hml, hts, hown, hlk, hnm, hP, hK, hD, hA, hZ, hl⟩ := hBd
  have hown : s.vm.findClass RX9 = some m.cls := hown
  have hl : lv_has ls 4 [(0, .ref h0), (1, .int p0)] := hl
  have hS : va_S A s.heap s.heap [] := va_S.rf
  refine lv_aload_n hx hb dX9_first_0 rfl (lv_at hl 0 rfl) ?_
  refine va_get (D := G) (ci := 9) (v := .ref (b 1)) (C := RX9) (T := TX9) (N := 11) hx hb hts iG_X9 hown hK hP 0 rfl rfl 1 (by decide) (hts _ w_352) (fun _ h9 => h9) rfl dX9_first_1 ?_
  refine lv_iload_n hx hb dX9_first_4 rfl (lv_at hl 1 rfl) ?_
  obtain ⟨v1, ev1⟩ : ∃ y : Int64, p0.toInt64 = y := ⟨_, rfl⟩
  have tv1 : v1.toInt = p0.toInt := ti_wide rfl ev1
  refine lv_i2l (v := v1) hx hb dX9_first_5 ev1 ?_
  refine k_i (wc := [(b 1, oX0 bt t_lines t_span t_rule t_odds t_wide t_high t_creeks t_houses t_widows t_acts)]) (wr := [(h0, oX9 b), (b 4, oX6 bn n_field n_houses), (bn 7, .inl (cJ, 13, .inr (.inl n_f7)))]) hP hD hS hA [1] [0, 2, 3] rfl rfl rfl (by decide) (va_runVN (As := [.long v1]) (rest := []) ⟨hx, hb, hml, hown, hts⟩ (f_X0_spotOf l G cI cJ cZ cB cQ _ (b 1) v1 bt t_lines t_span t_rule t_odds t_wide t_high t_creeks t_houses t_widows t_acts hl_t_span hh_t_span hl_t_rule hh_t_rule hl_t_odds hh_t_odds hl_t_wide hh_t_wide hl_t_high hh_t_high hl_t_creeks hh_t_creeks hl_t_houses hh_t_houses hl_t_widows hh_t_widows hl_t_acts hh_t_acts) ⟨va_cnB (host := "WidowRoads") 1 hts (gW w_656) rfl rfl rfl (nz_nw hZ nw_653 rfl) (hts _ w_4) hd_X0_spotOf ⟨Nat.le_of_ble_eq_true rfl, Nat.le_of_ble_eq_true rfl⟩, (hts _ w_655), (hts _ wp_34)⟩ (mV hK hZ hP hD [1] rfl rfl [.long v1] 1 0 rfl rfl) rfl rfl hl.1 rfl (lv_room (Nat.le_of_ble_eq_true rfl)) dX9_first_6 ⟨Nat.le_of_ble_eq_true rfl, Nat.le_of_ble_eq_true rfl⟩) (fun r2 u3 H locs hw4 hP hD hS => ?_)
  try dsimp only at hw4
  have hP : va_P G vwCl [(h0, oX9 b), (b 4, oX6 bn n_field n_houses), (bn 7, .inl (cJ, 13, .inr (.inl n_f7))), (b 1, oX0 bt t_lines t_span t_rule t_odds t_wide t_high t_creeks t_houses t_widows t_acts)] H := hP
  have hD : va_D A [(h0, oX9 b), (b 4, oX6 bn n_field n_houses), (bn 7, .inl (cJ, 13, .inr (.inl n_f7))), (b 1, oX0 bt t_lines t_span t_rule t_odds t_wide t_high t_creeks t_houses t_widows t_acts)] := hD
  refine lv_istore_n (lv' := [(2, .int r2), (0, .ref h0), (1, .int p0)]) hx hb dX9_first_9 rfl hl (by decide) rfl (fun ls hl => ?_)
  refine lv_iload_n hx hb dX9_first_10 rfl (lv_at hl 0 rfl) ?_
  refine lv_iconst (v := (-1)) hx hb dX9_first_11 (by decide) ?_
  refine lv_icmp_ne (tgt := 18) hx hb dX9_first_12 (by decide) (fun c5 => ?_) (fun c5 => ?_)
  · have c5 := i_ne rfl ki_m1 c5
    refine lv_iconst (v := 0) hx hb dX9_first_18 (by decide) ?_
    refine lv_istore_n (lv' := [(3, .int 0), (2, .int r2), (0, .ref h0), (1, .int p0)]) hx hb dX9_first_19 rfl hl (by decide) rfl (fun ls hl => ?_)
    have lp6 : ∀ (n7 : Nat) (x8 : Int32), 0 ≤ x8.toInt → x8.toInt ≤ 13 → 13 - x8.toInt < (n7 : Int) → ∀ (H : Heap) (locs : List Loc), va_P G vwCl [(h0, oX9 b), (b 4, oX6 bn n_field n_houses), (bn 7, .inl (cJ, 13, .inr (.inl n_f7))), (b 1, oX0 bt t_lines t_span t_rule t_odds t_wide t_high t_creeks t_houses t_widows t_acts)] H → va_D A [(h0, oX9 b), (b 4, oX6 bn n_field n_houses), (bn 7, .inl (cJ, 13, .inr (.inl n_f7))), (b 1, oX0 bt t_lines t_span t_rule t_odds t_wide t_high t_creeks t_houses t_widows t_acts)] → va_S A s.heap H locs → ∀ (ls : Array Slot), lv_has ls 4 [(3, .int x8), (2, .int r2), (0, .ref h0), (1, .int p0)] → W p l e ({ frames := 1, cells := 0, slots := 0, locals := 22 } : Room) s m ([.ref h0, .int p0] : List Value).toArray below meth c H locs 0 0 Q (F0 m 20 ls []) := by
      intro n7
      induction n7 with
      | zero =>
        intro x8 k9 k10 mm12
        exact absurd mm12 (by have q9 := fb_rng x8; omega)
      | succ n7 ih11 =>
        intro x8 k9 k10 mm12 H locs hP hD hS ls hl
        refine lv_iload_n hx hb dX9_first_20 rfl (lv_at hl 0 rfl) ?_
        refine lv_aload_n hx hb dX9_first_21 rfl (lv_at hl 2 rfl) ?_
        refine va_get (D := G) (ci := 9) (v := .ref (b 1)) (C := RX9) (T := TX9) (N := 11) hx hb hts iG_X9 hown hK hP 0 rfl rfl 1 (by decide) (hts _ w_352) (fun _ h9 => h9) rfl dX9_first_22 ?_
        refine va_getN (D := G) (ci := 0) (v := .int t_span) (C := RX0) (T := TX0) (N := 19) hx hb hts iG_X0 hown hK hP 3 rfl rfl 1 (by decide) (nz_use hZ nw_62 rfl) (fun _ h9 => h9) rfl dX9_first_25 ?_
        refine lv_icmp_gt (tgt := 55) hx hb dX9_first_28 (by decide) (fun c13 => ?_) (fun c13 => ?_)
        · have c13 := i_lt rfl rfl c13
          refine lv_iconst (v := (-1)) hx hb dX9_first_55 (by decide) ?_
          exact hret _ _ _ _ (-1) () (hP.sub (ws' := [(h0, oX9 b), (b 1, oX0 bt t_lines t_span t_rule t_odds t_wide t_high t_creeks t_houses t_widows t_acts), (b 4, oX6 bn n_field n_houses), (bn 7, .inl (cJ, 13, .inr (.inl n_f7)))]) [0, 3, 1, 2] rfl) (hD.sub (ws' := [(h0, oX9 b), (b 1, oX0 bt t_lines t_span t_rule t_odds t_wide t_high t_creeks t_houses t_widows t_acts), (b 4, oX6 bn n_field n_houses), (bn 7, .inl (cJ, 13, .inr (.inl n_f7)))]) [0, 3, 1, 2] rfl rfl) hS dX9_first_56 trivial
        · have c13 := i_nlt rfl rfl c13
          refine lv_aload_n hx hb dX9_first_31 rfl (lv_at hl 2 rfl) ?_
          refine va_get (D := G) (ci := 9) (v := .ref (b 4)) (C := RX9) (T := TX9) (N := 11) hx hb hts iG_X9 hown hK hP 0 rfl rfl 4 (by decide) (hts _ w_355) (fun _ h9 => h9) rfl dX9_first_32 ?_
          refine va_getN (D := G) (ci := 6) (v := .ref (bn 7)) (C := RX6) (T := TX6) (N := 12) hx hb hts iG_X6 hown hK hP 1 rfl rfl 7 (by decide) (nz_use hZ nw_249 rfl) (fun _ h9 => h9) rfl dX9_first_35 ?_
          refine lv_iload_n hx hb dX9_first_38 rfl (lv_at hl 0 rfl) ?_
          refine va_lald hx hb hK hP 2 1 rfl rfl (ix_in rfl (by omega) (by omega)) dX9_first_39 ?_
          refine lv_topl (fun v14 ev14 => ?_)
          refine lv_iload_n hx hb dX9_first_40 rfl (lv_at hl 1 rfl) ?_
          refine k_i (wc := []) (wr := [(h0, oX9 b), (b 4, oX6 bn n_field n_houses), (bn 7, .inl (cJ, 13, .inr (.inl n_f7))), (b 1, oX0 bt t_lines t_span t_rule t_odds t_wide t_high t_creeks t_houses t_widows t_acts)]) hP hD hS hA [] [0, 1, 2, 3] rfl rfl rfl (by decide) (va_runS (As := [.long v14, .int r2]) (rest := []) ⟨hx, hb, hml, hown, hts⟩ (f_X9_has l G cI cJ cZ cB cQ _ v14 r2) (va_cwS 2 hts (gS w_660 w_526 w_1 w_527) rfl rfl rfl hd_X9_has ⟨Nat.le_of_ble_eq_true rfl, Nat.le_of_ble_eq_true rfl⟩) (mS hK hZ hP hD [] rfl rfl [.long v14, .int r2]) rfl rfl hl.1 rfl (lv_room (Nat.le_of_ble_eq_true rfl)) dX9_first_41 ⟨Nat.le_of_ble_eq_true rfl, Nat.le_of_ble_eq_true rfl⟩) (fun r15 u16 H locs hw17 hP hD hS => ?_)
          try dsimp only at hw17
          have hP : va_P G vwCl [(h0, oX9 b), (b 4, oX6 bn n_field n_houses), (bn 7, .inl (cJ, 13, .inr (.inl n_f7))), (b 1, oX0 bt t_lines t_span t_rule t_odds t_wide t_high t_creeks t_houses t_widows t_acts)] H := hP
          have hD : va_D A [(h0, oX9 b), (b 4, oX6 bn n_field n_houses), (bn 7, .inl (cJ, 13, .inr (.inl n_f7))), (b 1, oX0 bt t_lines t_span t_rule t_odds t_wide t_high t_creeks t_houses t_widows t_acts)] := hD
          obtain ⟨w18, w19⟩ : 0 ≤ r15.toInt ∧ r15.toInt ≤ 1 := hw17
          refine lv_if_eq (tgt := 49) hx hb dX9_first_44 (by decide) (fun c20 => ?_) (fun c20 => ?_)
          · have c20 := i_eq rfl ki_0 c20
            obtain ⟨v21, ev21⟩ : ∃ y : Int32, y = x8 + 1 := ⟨_, rfl⟩
            have tv21 : v21.toInt = x8.toInt + 1 := ti_add rfl ki_1 ev21 (by omega) (by omega)
            refine lv_iinc (v := v21) (lv' := [(3, .int v21), (2, .int r2), (0, .ref h0), (1, .int p0)]) hx hb dX9_first_49 hl (k := 0) rfl (by rw [ev21]; rfl) (by decide) rfl (fun ls hl => ?_)
            refine lv_goto (tgt := 20) hx hb dX9_first_52 (by decide) ?_
            exact ih11 v21 (by omega) (by omega) (by omega) _ _ hP hD hS ls (lv_sub hl [0, 1, 2, 3] rfl)
          · have c20 := i_ne rfl ki_0 c20
            refine lv_iload_n hx hb dX9_first_47 rfl (lv_at hl 0 rfl) ?_
            exact hret _ _ _ _ x8 () (hP.sub (ws' := [(h0, oX9 b), (b 1, oX0 bt t_lines t_span t_rule t_odds t_wide t_high t_creeks t_houses t_widows t_acts), (b 4, oX6 bn n_field n_houses), (bn 7, .inl (cJ, 13, .inr (.inl n_f7)))]) [0, 3, 1, 2] rfl) (hD.sub (ws' := [(h0, oX9 b), (b 1, oX0 bt t_lines t_span t_rule t_odds t_wide t_high t_creeks t_houses t_widows t_acts), (b 4, oX6 bn n_field n_houses), (bn 7, .inl (cJ, 13, .inr (.inl n_f7)))]) [0, 3, 1, 2] rfl rfl) hS dX9_first_48 trivial
    exact lp6 14 0 (by rw [ki_0]; decide) (by rw [ki_0]; decide) (by rw [ki_0]; decide) _ _ hP hD hS ls (lv_sub hl [0, 1, 2, 3] rfl)
  · have c5 := i_eq rfl ki_m1 c5
    refine lv_bipush (v := (-2)) hx hb dX9_first_15 (by decide) ?_
    exact hret _ _ _ _ (-2) () (hP.sub (ws' := [(h0, oX9 b), (b 1, oX0 bt t_lines t_span t_rule t_odds t_wide t_high t_creeks t_houses t_widows t_acts), (b 4, oX6 bn n_field n_houses), (bn 7, .inl (cJ, 13, .inr (.inl n_f7)))]) [0, 3, 1, 2] rfl) (hD.sub (ws' := [(h0, oX9 b), (b 1, oX0 bt t_lines t_span t_rule t_odds t_wide t_high t_creeks t_houses t_widows t_acts), (b 4, oX6 bn n_field n_houses), (bn 7, .inl (cJ, 13, .inr (.inl n_f7)))]) [0, 3, 1, 2] rfl rfl) hS dX9_first_17 trivial
set_option maxHeartbeats 4000000 in
set_option maxRecDepth 100000 in
theorem f_X9_house (l : Launch) (G : va_G) (cI cJ cZ cB cQ : ClassId) (sz : Nat) (h0 : Nat) (p0 : Int32) (p1 : Int32) (b : Nat → Nat) (bt : Nat → Nat) (t_lines : Int32) (t_span : Int32) (t_rule : Int32) (t_odds : Int32) (t_wide : Int32) (t_high : Int32) (t_creeks : Int32) (t_houses : Int32) (t_widows : Int32) (t_acts : Int32) (bn : Nat → Nat) (n_field : Int64) (n_houses : Int32) (n_f6 : Nat → Int32) (hl_t_span : 0 ≤ t_span.toInt) (hh_t_span : t_span.toInt ≤ 12) (hl_t_rule : 0 ≤ t_rule.toInt) (hh_t_rule : t_rule.toInt ≤ 3) (hl_t_odds : 0 ≤ t_odds.toInt) (hh_t_odds : t_odds.toInt ≤ 10) (hl_t_wide : 0 ≤ t_wide.toInt) (hh_t_wide : t_wide.toInt ≤ 8) (hl_t_high : 0 ≤ t_high.toInt) (hh_t_high : t_high.toInt ≤ 8) (hl_t_creeks : 0 ≤ t_creeks.toInt) (hh_t_creeks : t_creeks.toInt ≤ 12) (hl_t_houses : 0 ≤ t_houses.toInt) (hh_t_houses : t_houses.toInt ≤ 6) (hl_t_widows : 0 ≤ t_widows.toInt) (hh_t_widows : t_widows.toInt ≤ 7) (hl_t_acts : 0 ≤ t_acts.toInt) (hh_t_acts : t_acts.toInt ≤ 30) (hl_n_houses : 0 ≤ n_houses.toInt) (hh_n_houses : n_houses.toInt ≤ 6) : CI l yX9_house (wl_ yX9_house cX9_house 3 (some .int)) ({ frames := 1, cells := 0, slots := 0, locals := 21 } : Room) G (TY cI cJ cZ cB cQ) [.ref h0, .int p0, .int p1] [(h0, oX9 b), (b 1, oX0 bt t_lines t_span t_rule t_odds t_wide t_high t_creeks t_houses t_widows t_acts), (b 4, oX6 bn n_field n_houses), (bn 6, .inl (cI, 78, .inl n_f6))] sz (fun (r : Int32) (u : Unit) => True) (fun _ : Unit => [(h0, oX9 b), (b 1, oX0 bt t_lines t_span t_rule t_odds t_wide t_high t_creeks t_houses t_widows t_acts), (b 4, oX6 bn n_field n_houses), (bn 6, .inl (cI, 78, .inl n_f6))]) 0 0 := by
  refine CI.go (cc := cX9_house) (maxL := 3) (ret := (some .int)) (by decide) rfl (Nat.le_of_ble_eq_true rfl) ?_
  intro p e s m below meth c A ls Q hBd hret
  obtain ⟨hx, hb, hr, hml, hts, hown, hlk, hnm, hP, hK, hD, hA, hZ, hl⟩ := hBd
  have hown : s.vm.findClass RX9 = some m.cls := hown
  have hl : lv_has ls 3 [(0, .ref h0), (1, .int p0), (2, .int p1)] := hl
  have hS : va_S A s.heap s.heap [] := va_S.rf
  refine lv_aload_n hx hb dX9_house_0 rfl (lv_at hl 0 rfl) ?_
  refine va_get (D := G) (ci := 9) (v := .ref (b 1)) (C := RX9) (T := TX9) (N := 11) hx hb hts iG_X9 hown hK hP 0 rfl rfl 1 (by decide) (hts _ w_352) (fun _ h9 => h9) rfl dX9_house_1 ?_
  refine lv_iload_n hx hb dX9_house_4 rfl (lv_at hl 1 rfl) ?_
  refine k_i (wc := [(b 1, oX0 bt t_lines t_span t_rule t_odds t_wide t_high t_creeks t_houses t_widows t_acts)]) (wr := [(h0, oX9 b), (b 4, oX6 bn n_field n_houses), (bn 6, .inl (cI, 78, .inl n_f6))]) hP hD hS hA [1] [0, 2, 3] rfl rfl rfl (by decide) (va_runVN (As := [.int p0]) (rest := []) ⟨hx, hb, hml, hown, hts⟩ (f_X0_hasHouse l G cI cJ cZ cB cQ _ (b 1) p0 p0.toInt bt t_lines t_span t_rule t_odds t_wide t_high t_creeks t_houses t_widows t_acts rfl hl_t_span hh_t_span hl_t_rule hh_t_rule hl_t_odds hh_t_odds hl_t_wide hh_t_wide hl_t_high hh_t_high hl_t_creeks hh_t_creeks hl_t_houses hh_t_houses hl_t_widows hh_t_widows hl_t_acts hh_t_acts) ⟨va_cnB (host := "WidowRoads") 1 hts (gW w_893) rfl rfl rfl (nz_nw hZ nw_890 rfl) (hts _ w_4) hd_X0_hasHouse ⟨Nat.le_of_ble_eq_true rfl, Nat.le_of_ble_eq_true rfl⟩, (hts _ w_892), (hts _ wp_54)⟩ (mV hK hZ hP hD [1] rfl rfl [.int p0] 1 0 rfl rfl) rfl rfl hl.1 rfl (lv_room (Nat.le_of_ble_eq_true rfl)) dX9_house_5 ⟨Nat.le_of_ble_eq_true rfl, Nat.le_of_ble_eq_true rfl⟩) (fun r1 u2 H locs hw3 hP hD hS => ?_)
  try dsimp only at hw3
  have hP : va_P G vwCl [(h0, oX9 b), (b 4, oX6 bn n_field n_houses), (bn 6, .inl (cI, 78, .inl n_f6)), (b 1, oX0 bt t_lines t_span t_rule t_odds t_wide t_high t_creeks t_houses t_widows t_acts)] H := hP
  have hD : va_D A [(h0, oX9 b), (b 4, oX6 bn n_field n_houses), (bn 6, .inl (cI, 78, .inl n_f6)), (b 1, oX0 bt t_lines t_span t_rule t_odds t_wide t_high t_creeks t_houses t_widows t_acts)] := hD
  rcases hw3 with ⟨rfl, a5, a6⟩ | ⟨rfl, a7⟩
  · skip
    refine lv_if_eq (tgt := 22) hx hb dX9_house_8 (by decide) (fun c8 => absurd c8 (by decide)) (fun c8 => ?_)
    refine lv_aload_n hx hb dX9_house_11 rfl (lv_at hl 0 rfl) ?_
    refine va_get (D := G) (ci := 9) (v := .ref (b 1)) (C := RX9) (T := TX9) (N := 11) hx hb hts iG_X9 hown hK hP 0 rfl rfl 1 (by decide) (hts _ w_352) (fun _ h9 => h9) rfl dX9_house_12 ?_
    refine lv_iload_n hx hb dX9_house_15 rfl (lv_at hl 2 rfl) ?_
    refine k_i (wc := [(b 1, oX0 bt t_lines t_span t_rule t_odds t_wide t_high t_creeks t_houses t_widows t_acts)]) (wr := [(h0, oX9 b), (b 4, oX6 bn n_field n_houses), (bn 6, .inl (cI, 78, .inl n_f6))]) hP hD hS hA [3] [0, 1, 2] rfl rfl rfl (by decide) (va_runVN (As := [.int p1]) (rest := []) ⟨hx, hb, hml, hown, hts⟩ (f_X0_hasYear l G cI cJ cZ cB cQ _ (b 1) p1 p1.toInt bt t_lines t_span t_rule t_odds t_wide t_high t_creeks t_houses t_widows t_acts rfl hl_t_span hh_t_span hl_t_rule hh_t_rule hl_t_odds hh_t_odds hl_t_wide hh_t_wide hl_t_high hh_t_high hl_t_creeks hh_t_creeks hl_t_houses hh_t_houses hl_t_widows hh_t_widows hl_t_acts hh_t_acts) ⟨va_cnB (host := "WidowRoads") 1 hts (gW w_727) rfl rfl rfl (nz_nw hZ nw_724 rfl) (hts _ w_4) hd_X0_hasYear ⟨Nat.le_of_ble_eq_true rfl, Nat.le_of_ble_eq_true rfl⟩, (hts _ w_726), (hts _ wp_39)⟩ (mV hK hZ hP hD [3] rfl rfl [.int p1] 3 0 rfl rfl) rfl rfl hl.1 rfl (lv_room (Nat.le_of_ble_eq_true rfl)) dX9_house_16 ⟨Nat.le_of_ble_eq_true rfl, Nat.le_of_ble_eq_true rfl⟩) (fun r9 u10 H locs hw11 hP hD hS => ?_)
    try dsimp only at hw11
    have hP : va_P G vwCl [(h0, oX9 b), (b 4, oX6 bn n_field n_houses), (bn 6, .inl (cI, 78, .inl n_f6)), (b 1, oX0 bt t_lines t_span t_rule t_odds t_wide t_high t_creeks t_houses t_widows t_acts)] H := hP
    have hD : va_D A [(h0, oX9 b), (b 4, oX6 bn n_field n_houses), (bn 6, .inl (cI, 78, .inl n_f6)), (b 1, oX0 bt t_lines t_span t_rule t_odds t_wide t_high t_creeks t_houses t_widows t_acts)] := hD
    rcases hw11 with ⟨rfl, a13, a14⟩ | rfl
    · skip
      refine lv_if_ne (tgt := 25) hx hb dX9_house_19 (by decide) (fun c15 => ?_) (fun c15 => absurd c15 (by decide))
      refine lv_aload_n hx hb dX9_house_25 rfl (lv_at hl 0 rfl) ?_
      refine va_get (D := G) (ci := 9) (v := .ref (b 4)) (C := RX9) (T := TX9) (N := 11) hx hb hts iG_X9 hown hK hP 0 rfl rfl 4 (by decide) (hts _ w_355) (fun _ h9 => h9) rfl dX9_house_26 ?_
      refine va_getN (D := G) (ci := 6) (v := .ref (bn 6)) (C := RX6) (T := TX6) (N := 12) hx hb hts iG_X6 hown hK hP 1 rfl rfl 6 (by decide) (nz_use hZ nw_245 rfl) (fun _ h9 => h9) rfl dX9_house_29 ?_
      refine lv_iload_n hx hb dX9_house_32 rfl (lv_at hl 2 rfl) ?_
      refine lv_bipush (v := 6) hx hb dX9_house_33 (by decide) ?_
      refine lv_imul hx hb dX9_house_35 ?_
      refine lv_topi (fun v16 ev16 => ?_)
      have tv16 : v16.toInt = p1.toInt * 6 := ti_mul rfl ki_6 ev16 (by omega) (by omega)
      refine lv_iload_n hx hb dX9_house_36 rfl (lv_at hl 1 rfl) ?_
      refine lv_iadd hx hb dX9_house_37 ?_
      refine lv_topi (fun v17 ev17 => ?_)
      have tv17 : v17.toInt = p1.toInt * 6 + p0.toInt := ti_add tv16 rfl ev17 (by omega) (by omega)
      refine va_iald hx hb hK hP 2 0 rfl rfl (ix_in tv17 (by omega) (by omega)) dX9_house_38 ?_
      refine lv_topi (fun v18 ev18 => ?_)
      refine k_i (wc := []) (wr := [(h0, oX9 b), (b 4, oX6 bn n_field n_houses), (bn 6, .inl (cI, 78, .inl n_f6)), (b 1, oX0 bt t_lines t_span t_rule t_odds t_wide t_high t_creeks t_houses t_widows t_acts)]) hP hD hS hA [] [0, 1, 2, 3] rfl rfl rfl (by decide) (va_runS (As := [.int v18]) (rest := []) ⟨hx, hb, hml, hown, hts⟩ (f_X9_cellOf l G cI cJ cZ cB cQ _ v18) (va_cwS 1 hts (gS w_672 w_673 w_1 w_674) rfl rfl rfl hd_X9_cellOf ⟨Nat.le_of_ble_eq_true rfl, Nat.le_of_ble_eq_true rfl⟩) (mS hK hZ hP hD [] rfl rfl [.int v18]) rfl rfl hl.1 rfl (lv_room (Nat.le_of_ble_eq_true rfl)) dX9_house_39 ⟨Nat.le_of_ble_eq_true rfl, Nat.le_of_ble_eq_true rfl⟩) (fun r19 u20 H locs hw21 hP hD hS => ?_)
      try dsimp only at hw21
      have hP : va_P G vwCl [(h0, oX9 b), (b 4, oX6 bn n_field n_houses), (bn 6, .inl (cI, 78, .inl n_f6)), (b 1, oX0 bt t_lines t_span t_rule t_odds t_wide t_high t_creeks t_houses t_widows t_acts)] H := hP
      have hD : va_D A [(h0, oX9 b), (b 4, oX6 bn n_field n_houses), (bn 6, .inl (cI, 78, .inl n_f6)), (b 1, oX0 bt t_lines t_span t_rule t_odds t_wide t_high t_creeks t_houses t_widows t_acts)] := hD
      exact hret _ _ _ _ r19 () (hP.sub (ws' := [(h0, oX9 b), (b 1, oX0 bt t_lines t_span t_rule t_odds t_wide t_high t_creeks t_houses t_widows t_acts), (b 4, oX6 bn n_field n_houses), (bn 6, .inl (cI, 78, .inl n_f6))]) [0, 3, 1, 2] rfl) (hD.sub (ws' := [(h0, oX9 b), (b 1, oX0 bt t_lines t_span t_rule t_odds t_wide t_high t_creeks t_houses t_widows t_acts), (b 4, oX6 bn n_field n_houses), (bn 6, .inl (cI, 78, .inl n_f6))]) [0, 3, 1, 2] rfl rfl) hS dX9_house_42 trivial
    · skip
      refine lv_if_ne (tgt := 25) hx hb dX9_house_19 (by decide) (fun c22 => absurd (by decide) c22) (fun c22 => ?_)
      refine lv_bipush (v := (-2)) hx hb dX9_house_22 (by decide) ?_
      exact hret _ _ _ _ (-2) () (hP.sub (ws' := [(h0, oX9 b), (b 1, oX0 bt t_lines t_span t_rule t_odds t_wide t_high t_creeks t_houses t_widows t_acts), (b 4, oX6 bn n_field n_houses), (bn 6, .inl (cI, 78, .inl n_f6))]) [0, 3, 1, 2] rfl) (hD.sub (ws' := [(h0, oX9 b), (b 1, oX0 bt t_lines t_span t_rule t_odds t_wide t_high t_creeks t_houses t_widows t_acts), (b 4, oX6 bn n_field n_houses), (bn 6, .inl (cI, 78, .inl n_f6))]) [0, 3, 1, 2] rfl rfl) hS dX9_house_24 trivial
  · skip
    refine lv_if_eq (tgt := 22) hx hb dX9_house_8 (by decide) (fun c23 => ?_) (fun c23 => absurd (by decide) c23)
    refine lv_bipush (v := (-2)) hx hb dX9_house_22 (by decide) ?_
    exact hret _ _ _ _ (-2) () (hP.sub (ws' := [(h0, oX9 b), (b 1, oX0 bt t_lines t_span t_rule t_odds t_wide t_high t_creeks t_houses t_widows t_acts), (b 4, oX6 bn n_field n_houses), (bn 6, .inl (cI, 78, .inl n_f6))]) [0, 3, 1, 2] rfl) (hD.sub (ws' := [(h0, oX9 b), (b 1, oX0 bt t_lines t_span t_rule t_odds t_wide t_high t_creeks t_houses t_widows t_acts), (b 4, oX6 bn n_field n_houses), (bn 6, .inl (cI, 78, .inl n_f6))]) [0, 3, 1, 2] rfl rfl) hS dX9_house_24 trivial
set_option maxHeartbeats 4000000 in
set_option maxRecDepth 100000 in
theorem f_X9_moved (l : Launch) (G : va_G) (cI cJ cZ cB cQ : ClassId) (sz : Nat) (h0 : Nat) (p0 : Int32) (b : Nat → Nat) (bt : Nat → Nat) (t_lines : Int32) (t_span : Int32) (t_rule : Int32) (t_odds : Int32) (t_wide : Int32) (t_high : Int32) (t_creeks : Int32) (t_houses : Int32) (t_widows : Int32) (t_acts : Int32) (bn : Nat → Nat) (n_field : Int64) (n_houses : Int32) (n_f5 : Nat → Int32) (hl_t_span : 0 ≤ t_span.toInt) (hh_t_span : t_span.toInt ≤ 12) (hl_t_rule : 0 ≤ t_rule.toInt) (hh_t_rule : t_rule.toInt ≤ 3) (hl_t_odds : 0 ≤ t_odds.toInt) (hh_t_odds : t_odds.toInt ≤ 10) (hl_t_wide : 0 ≤ t_wide.toInt) (hh_t_wide : t_wide.toInt ≤ 8) (hl_t_high : 0 ≤ t_high.toInt) (hh_t_high : t_high.toInt ≤ 8) (hl_t_creeks : 0 ≤ t_creeks.toInt) (hh_t_creeks : t_creeks.toInt ≤ 12) (hl_t_houses : 0 ≤ t_houses.toInt) (hh_t_houses : t_houses.toInt ≤ 6) (hl_t_widows : 0 ≤ t_widows.toInt) (hh_t_widows : t_widows.toInt ≤ 7) (hl_t_acts : 0 ≤ t_acts.toInt) (hh_t_acts : t_acts.toInt ≤ 30) (hl_n_houses : 0 ≤ n_houses.toInt) (hh_n_houses : n_houses.toInt ≤ 6) : CI l yX9_moved (wl_ yX9_moved cX9_moved 2 (some .int)) ({ frames := 1, cells := 0, slots := 0, locals := 21 } : Room) G (TY cI cJ cZ cB cQ) [.ref h0, .int p0] [(h0, oX9 b), (b 1, oX0 bt t_lines t_span t_rule t_odds t_wide t_high t_creeks t_houses t_widows t_acts), (b 4, oX6 bn n_field n_houses), (bn 5, .inl (cI, 6, .inl n_f5))] sz (fun (r : Int32) (u : Unit) => True) (fun _ : Unit => [(h0, oX9 b), (b 1, oX0 bt t_lines t_span t_rule t_odds t_wide t_high t_creeks t_houses t_widows t_acts), (b 4, oX6 bn n_field n_houses), (bn 5, .inl (cI, 6, .inl n_f5))]) 0 0 := by
  refine CI.go (cc := cX9_moved) (maxL := 2) (ret := (some .int)) (by decide) rfl (Nat.le_of_ble_eq_true rfl) ?_
  intro p e s m below meth c A ls Q hBd hret
  obtain ⟨hx, hb, hr, hml, hts, hown, hlk, hnm, hP, hK, hD, hA, hZ, hl⟩ := hBd
  have hown : s.vm.findClass RX9 = some m.cls := hown
  have hl : lv_has ls 2 [(0, .ref h0), (1, .int p0)] := hl
  have hS : va_S A s.heap s.heap [] := va_S.rf
  refine lv_aload_n hx hb dX9_moved_0 rfl (lv_at hl 0 rfl) ?_
  refine va_get (D := G) (ci := 9) (v := .ref (b 1)) (C := RX9) (T := TX9) (N := 11) hx hb hts iG_X9 hown hK hP 0 rfl rfl 1 (by decide) (hts _ w_352) (fun _ h9 => h9) rfl dX9_moved_1 ?_
  refine lv_iload_n hx hb dX9_moved_4 rfl (lv_at hl 1 rfl) ?_
  refine k_i (wc := [(b 1, oX0 bt t_lines t_span t_rule t_odds t_wide t_high t_creeks t_houses t_widows t_acts)]) (wr := [(h0, oX9 b), (b 4, oX6 bn n_field n_houses), (bn 5, .inl (cI, 6, .inl n_f5))]) hP hD hS hA [1] [0, 2, 3] rfl rfl rfl (by decide) (va_runVN (As := [.int p0]) (rest := []) ⟨hx, hb, hml, hown, hts⟩ (f_X0_hasHouse l G cI cJ cZ cB cQ _ (b 1) p0 p0.toInt bt t_lines t_span t_rule t_odds t_wide t_high t_creeks t_houses t_widows t_acts rfl hl_t_span hh_t_span hl_t_rule hh_t_rule hl_t_odds hh_t_odds hl_t_wide hh_t_wide hl_t_high hh_t_high hl_t_creeks hh_t_creeks hl_t_houses hh_t_houses hl_t_widows hh_t_widows hl_t_acts hh_t_acts) ⟨va_cnB (host := "WidowRoads") 1 hts (gW w_893) rfl rfl rfl (nz_nw hZ nw_890 rfl) (hts _ w_4) hd_X0_hasHouse ⟨Nat.le_of_ble_eq_true rfl, Nat.le_of_ble_eq_true rfl⟩, (hts _ w_892), (hts _ wp_54)⟩ (mV hK hZ hP hD [1] rfl rfl [.int p0] 1 0 rfl rfl) rfl rfl hl.1 rfl (lv_room (Nat.le_of_ble_eq_true rfl)) dX9_moved_5 ⟨Nat.le_of_ble_eq_true rfl, Nat.le_of_ble_eq_true rfl⟩) (fun r1 u2 H locs hw3 hP hD hS => ?_)
  try dsimp only at hw3
  have hP : va_P G vwCl [(h0, oX9 b), (b 4, oX6 bn n_field n_houses), (bn 5, .inl (cI, 6, .inl n_f5)), (b 1, oX0 bt t_lines t_span t_rule t_odds t_wide t_high t_creeks t_houses t_widows t_acts)] H := hP
  have hD : va_D A [(h0, oX9 b), (b 4, oX6 bn n_field n_houses), (bn 5, .inl (cI, 6, .inl n_f5)), (b 1, oX0 bt t_lines t_span t_rule t_odds t_wide t_high t_creeks t_houses t_widows t_acts)] := hD
  rcases hw3 with ⟨rfl, a5, a6⟩ | ⟨rfl, a7⟩
  · skip
    refine lv_if_eq (tgt := 23) hx hb dX9_moved_8 (by decide) (fun c8 => absurd c8 (by decide)) (fun c8 => ?_)
    refine lv_aload_n hx hb dX9_moved_11 rfl (lv_at hl 0 rfl) ?_
    refine va_get (D := G) (ci := 9) (v := .ref (b 4)) (C := RX9) (T := TX9) (N := 11) hx hb hts iG_X9 hown hK hP 0 rfl rfl 4 (by decide) (hts _ w_355) (fun _ h9 => h9) rfl dX9_moved_12 ?_
    refine va_getN (D := G) (ci := 6) (v := .ref (bn 5)) (C := RX6) (T := TX6) (N := 12) hx hb hts iG_X6 hown hK hP 1 rfl rfl 5 (by decide) (nz_use hZ nw_243 rfl) (fun _ h9 => h9) rfl dX9_moved_15 ?_
    refine lv_iload_n hx hb dX9_moved_18 rfl (lv_at hl 1 rfl) ?_
    refine va_iald hx hb hK hP 2 0 rfl rfl (ix_in rfl (by omega) (by omega)) dX9_moved_19 ?_
    refine lv_topi (fun v9 ev9 => ?_)
    refine lv_goto (tgt := 25) hx hb dX9_moved_20 (by decide) ?_
    exact hret _ _ _ _ v9 () (hP.sub (ws' := [(h0, oX9 b), (b 1, oX0 bt t_lines t_span t_rule t_odds t_wide t_high t_creeks t_houses t_widows t_acts), (b 4, oX6 bn n_field n_houses), (bn 5, .inl (cI, 6, .inl n_f5))]) [0, 3, 1, 2] rfl) (hD.sub (ws' := [(h0, oX9 b), (b 1, oX0 bt t_lines t_span t_rule t_odds t_wide t_high t_creeks t_houses t_widows t_acts), (b 4, oX6 bn n_field n_houses), (bn 5, .inl (cI, 6, .inl n_f5))]) [0, 3, 1, 2] rfl rfl) hS dX9_moved_25 trivial
  · skip
    refine lv_if_eq (tgt := 23) hx hb dX9_moved_8 (by decide) (fun c10 => ?_) (fun c10 => absurd (by decide) c10)
    refine lv_bipush (v := (-2)) hx hb dX9_moved_23 (by decide) ?_
    exact hret _ _ _ _ (-2) () (hP.sub (ws' := [(h0, oX9 b), (b 1, oX0 bt t_lines t_span t_rule t_odds t_wide t_high t_creeks t_houses t_widows t_acts), (b 4, oX6 bn n_field n_houses), (bn 5, .inl (cI, 6, .inl n_f5))]) [0, 3, 1, 2] rfl) (hD.sub (ws' := [(h0, oX9 b), (b 1, oX0 bt t_lines t_span t_rule t_odds t_wide t_high t_creeks t_houses t_widows t_acts), (b 4, oX6 bn n_field n_houses), (bn 5, .inl (cI, 6, .inl n_f5))]) [0, 3, 1, 2] rfl rfl) hS dX9_moved_25 trivial
set_option maxHeartbeats 4000000 in
set_option maxRecDepth 100000 in
theorem f_X9_moves (l : Launch) (G : va_G) (cI cJ cZ cB cQ : ClassId) (sz : Nat) (h0 : Nat) (p0 : Int32) (b : Nat → Nat) (bt : Nat → Nat) (t_lines : Int32) (t_span : Int32) (t_rule : Int32) (t_odds : Int32) (t_wide : Int32) (t_high : Int32) (t_creeks : Int32) (t_houses : Int32) (t_widows : Int32) (t_acts : Int32) (bn : Nat → Nat) (n_field : Int64) (n_houses : Int32) (n_f1 : Nat → Int32) (n_f4 : Nat → Int32) (hl_t_span : 0 ≤ t_span.toInt) (hh_t_span : t_span.toInt ≤ 12) (hl_t_rule : 0 ≤ t_rule.toInt) (hh_t_rule : t_rule.toInt ≤ 3) (hl_t_odds : 0 ≤ t_odds.toInt) (hh_t_odds : t_odds.toInt ≤ 10) (hl_t_wide : 0 ≤ t_wide.toInt) (hh_t_wide : t_wide.toInt ≤ 8) (hl_t_high : 0 ≤ t_high.toInt) (hh_t_high : t_high.toInt ≤ 8) (hl_t_creeks : 0 ≤ t_creeks.toInt) (hh_t_creeks : t_creeks.toInt ≤ 12) (hl_t_houses : 0 ≤ t_houses.toInt) (hh_t_houses : t_houses.toInt ≤ 6) (hl_t_widows : 0 ≤ t_widows.toInt) (hh_t_widows : t_widows.toInt ≤ 7) (hl_t_acts : 0 ≤ t_acts.toInt) (hh_t_acts : t_acts.toInt ≤ 30) (hl_n_houses : 0 ≤ n_houses.toInt) (hh_n_houses : n_houses.toInt ≤ 6) (ha_n_f1 : ai n_f1 7 (-1) 40) : CI l yX9_moves (wl_ yX9_moves cX9_moves 2 (some .int)) ({ frames := 1, cells := 0, slots := 0, locals := 22 } : Room) G (TY cI cJ cZ cB cQ) [.ref h0, .int p0] [(h0, oX9 b), (b 1, oX0 bt t_lines t_span t_rule t_odds t_wide t_high t_creeks t_houses t_widows t_acts), (b 4, oX6 bn n_field n_houses), (bn 1, .inl (cI, 7, .inl n_f1)), (bn 4, .inl (cI, 7, .inl n_f4))] sz (fun (r : Int32) (u : Unit) => True) (fun _ : Unit => [(h0, oX9 b), (b 1, oX0 bt t_lines t_span t_rule t_odds t_wide t_high t_creeks t_houses t_widows t_acts), (b 4, oX6 bn n_field n_houses), (bn 1, .inl (cI, 7, .inl n_f1)), (bn 4, .inl (cI, 7, .inl n_f4))]) 0 0 := by
  refine CI.go (cc := cX9_moves) (maxL := 2) (ret := (some .int)) (by decide) rfl (Nat.le_of_ble_eq_true rfl) ?_
  intro p e s m below meth c A ls Q hBd hret
  obtain ⟨hx, hb, hr, hml, hts, hown, hlk, hnm, hP, hK, hD, hA, hZ, hl⟩ := hBd
  have hown : s.vm.findClass RX9 = some m.cls := hown
  have hl : lv_has ls 2 [(0, .ref h0), (1, .int p0)] := hl
  have hS : va_S A s.heap s.heap [] := va_S.rf
  refine lv_aload_n hx hb dX9_moves_0 rfl (lv_at hl 0 rfl) ?_
  refine va_get (D := G) (ci := 9) (v := .ref (b 1)) (C := RX9) (T := TX9) (N := 11) hx hb hts iG_X9 hown hK hP 0 rfl rfl 1 (by decide) (hts _ w_352) (fun _ h9 => h9) rfl dX9_moves_1 ?_
  refine lv_iload_n hx hb dX9_moves_4 rfl (lv_at hl 1 rfl) ?_
  obtain ⟨v1, ev1⟩ : ∃ y : Int64, p0.toInt64 = y := ⟨_, rfl⟩
  have tv1 : v1.toInt = p0.toInt := ti_wide rfl ev1
  refine lv_i2l (v := v1) hx hb dX9_moves_5 ev1 ?_
  refine k_i (wc := [(b 1, oX0 bt t_lines t_span t_rule t_odds t_wide t_high t_creeks t_houses t_widows t_acts)]) (wr := [(h0, oX9 b), (b 4, oX6 bn n_field n_houses), (bn 1, .inl (cI, 7, .inl n_f1)), (bn 4, .inl (cI, 7, .inl n_f4))]) hP hD hS hA [1] [0, 2, 3, 4] rfl rfl rfl (by decide) (va_runVN (As := [.long v1]) (rest := []) ⟨hx, hb, hml, hown, hts⟩ (f_X0_hasWidow l G cI cJ cZ cB cQ _ (b 1) v1 p0.toInt bt t_lines t_span t_rule t_odds t_wide t_high t_creeks t_houses t_widows t_acts tv1 hl_t_span hh_t_span hl_t_rule hh_t_rule hl_t_odds hh_t_odds hl_t_wide hh_t_wide hl_t_high hh_t_high hl_t_creeks hh_t_creeks hl_t_houses hh_t_houses hl_t_widows hh_t_widows hl_t_acts hh_t_acts) ⟨va_cnB (host := "WidowRoads") 1 hts (gW w_671) rfl rfl rfl (nz_nw hZ nw_668 rfl) (hts _ w_4) hd_X0_hasWidow ⟨Nat.le_of_ble_eq_true rfl, Nat.le_of_ble_eq_true rfl⟩, (hts _ w_670), (hts _ wp_35)⟩ (mV hK hZ hP hD [1] rfl rfl [.long v1] 1 0 rfl rfl) rfl rfl hl.1 rfl (lv_room (Nat.le_of_ble_eq_true rfl)) dX9_moves_6 ⟨Nat.le_of_ble_eq_true rfl, Nat.le_of_ble_eq_true rfl⟩) (fun r2 u3 H locs hw4 hP hD hS => ?_)
  try dsimp only at hw4
  have hP : va_P G vwCl [(h0, oX9 b), (b 4, oX6 bn n_field n_houses), (bn 1, .inl (cI, 7, .inl n_f1)), (bn 4, .inl (cI, 7, .inl n_f4)), (b 1, oX0 bt t_lines t_span t_rule t_odds t_wide t_high t_creeks t_houses t_widows t_acts)] H := hP
  have hD : va_D A [(h0, oX9 b), (b 4, oX6 bn n_field n_houses), (bn 1, .inl (cI, 7, .inl n_f1)), (bn 4, .inl (cI, 7, .inl n_f4)), (b 1, oX0 bt t_lines t_span t_rule t_odds t_wide t_high t_creeks t_houses t_widows t_acts)] := hD
  rcases hw4 with ⟨rfl, a6, a7⟩ | ⟨rfl, a8⟩
  · skip
    refine lv_if_ne (tgt := 15) hx hb dX9_moves_9 (by decide) (fun c9 => ?_) (fun c9 => absurd c9 (by decide))
    refine lv_aload_n hx hb dX9_moves_15 rfl (lv_at hl 0 rfl) ?_
    refine va_get (D := G) (ci := 9) (v := .ref (b 4)) (C := RX9) (T := TX9) (N := 11) hx hb hts iG_X9 hown hK hP 0 rfl rfl 4 (by decide) (hts _ w_355) (fun _ h9 => h9) rfl dX9_moves_16 ?_
    refine lv_iload_n hx hb dX9_moves_19 rfl (lv_at hl 1 rfl) ?_
    refine k_i (wc := [(b 4, oX6 bn n_field n_houses), (bn 1, .inl (cI, 7, .inl n_f1))]) (wr := [(h0, oX9 b), (bn 4, .inl (cI, 7, .inl n_f4)), (b 1, oX0 bt t_lines t_span t_rule t_odds t_wide t_high t_creeks t_houses t_widows t_acts)]) hP hD hS hA [1, 2] [0, 3, 4] rfl rfl rfl (by decide) (va_runVN (As := [.int p0]) (rest := []) ⟨hx, hb, hml, hown, hts⟩ (f_X6_walks l G cI cJ cZ cB cQ _ (b 4) p0 bn n_field n_houses n_f1 (by omega) (by omega) hl_n_houses hh_n_houses ha_n_f1) ⟨va_cnB (host := "WidowRoads") 1 hts (gW w_702) rfl rfl rfl (nz_nw hZ nw_699 rfl) (hts _ w_6) hd_X6_walks ⟨Nat.le_of_ble_eq_true rfl, Nat.le_of_ble_eq_true rfl⟩, (hts _ w_701), (hts _ wp_37)⟩ (mV hK hZ hP hD [1, 2] rfl rfl [.int p0] 1 6 rfl rfl) rfl rfl hl.1 rfl (lv_room (Nat.le_of_ble_eq_true rfl)) dX9_moves_20 ⟨Nat.le_of_ble_eq_true rfl, Nat.le_of_ble_eq_true rfl⟩) (fun r10 u11 H locs hw12 hP hD hS => ?_)
    try dsimp only at hw12
    have hP : va_P G vwCl [(h0, oX9 b), (bn 4, .inl (cI, 7, .inl n_f4)), (b 1, oX0 bt t_lines t_span t_rule t_odds t_wide t_high t_creeks t_houses t_widows t_acts), (b 4, oX6 bn n_field n_houses), (bn 1, .inl (cI, 7, .inl n_f1))] H := hP
    have hD : va_D A [(h0, oX9 b), (bn 4, .inl (cI, 7, .inl n_f4)), (b 1, oX0 bt t_lines t_span t_rule t_odds t_wide t_high t_creeks t_houses t_widows t_acts), (b 4, oX6 bn n_field n_houses), (bn 1, .inl (cI, 7, .inl n_f1))] := hD
    rcases hw12 with ⟨rfl, a14⟩ | ⟨rfl, a15⟩
    · skip
      refine lv_if_eq (tgt := 38) hx hb dX9_moves_23 (by decide) (fun c16 => absurd c16 (by decide)) (fun c16 => ?_)
      refine lv_aload_n hx hb dX9_moves_26 rfl (lv_at hl 0 rfl) ?_
      refine va_get (D := G) (ci := 9) (v := .ref (b 4)) (C := RX9) (T := TX9) (N := 11) hx hb hts iG_X9 hown hK hP 0 rfl rfl 4 (by decide) (hts _ w_355) (fun _ h9 => h9) rfl dX9_moves_27 ?_
      refine va_getN (D := G) (ci := 6) (v := .ref (bn 4)) (C := RX6) (T := TX6) (N := 12) hx hb hts iG_X6 hown hK hP 3 rfl rfl 4 (by decide) (nz_use hZ nw_241 rfl) (fun _ h9 => h9) rfl dX9_moves_30 ?_
      refine lv_iload_n hx hb dX9_moves_33 rfl (lv_at hl 1 rfl) ?_
      refine va_iald hx hb hK hP 1 0 rfl rfl (ix_in rfl (by omega) (by omega)) dX9_moves_34 ?_
      refine lv_topi (fun v17 ev17 => ?_)
      refine lv_goto (tgt := 39) hx hb dX9_moves_35 (by decide) ?_
      exact hret _ _ _ _ v17 () (hP.sub (ws' := [(h0, oX9 b), (b 1, oX0 bt t_lines t_span t_rule t_odds t_wide t_high t_creeks t_houses t_widows t_acts), (b 4, oX6 bn n_field n_houses), (bn 1, .inl (cI, 7, .inl n_f1)), (bn 4, .inl (cI, 7, .inl n_f4))]) [0, 2, 3, 4, 1] rfl) (hD.sub (ws' := [(h0, oX9 b), (b 1, oX0 bt t_lines t_span t_rule t_odds t_wide t_high t_creeks t_houses t_widows t_acts), (b 4, oX6 bn n_field n_houses), (bn 1, .inl (cI, 7, .inl n_f1)), (bn 4, .inl (cI, 7, .inl n_f4))]) [0, 2, 3, 4, 1] rfl rfl) hS dX9_moves_39 trivial
    · skip
      refine lv_if_eq (tgt := 38) hx hb dX9_moves_23 (by decide) (fun c18 => ?_) (fun c18 => absurd (by decide) c18)
      refine lv_iconst (v := (-1)) hx hb dX9_moves_38 (by decide) ?_
      exact hret _ _ _ _ (-1) () (hP.sub (ws' := [(h0, oX9 b), (b 1, oX0 bt t_lines t_span t_rule t_odds t_wide t_high t_creeks t_houses t_widows t_acts), (b 4, oX6 bn n_field n_houses), (bn 1, .inl (cI, 7, .inl n_f1)), (bn 4, .inl (cI, 7, .inl n_f4))]) [0, 2, 3, 4, 1] rfl) (hD.sub (ws' := [(h0, oX9 b), (b 1, oX0 bt t_lines t_span t_rule t_odds t_wide t_high t_creeks t_houses t_widows t_acts), (b 4, oX6 bn n_field n_houses), (bn 1, .inl (cI, 7, .inl n_f1)), (bn 4, .inl (cI, 7, .inl n_f4))]) [0, 2, 3, 4, 1] rfl rfl) hS dX9_moves_39 trivial
  · skip
    refine lv_if_ne (tgt := 15) hx hb dX9_moves_9 (by decide) (fun c19 => absurd (by decide) c19) (fun c19 => ?_)
    refine lv_bipush (v := (-2)) hx hb dX9_moves_12 (by decide) ?_
    exact hret _ _ _ _ (-2) () (hP.sub (ws' := [(h0, oX9 b), (b 1, oX0 bt t_lines t_span t_rule t_odds t_wide t_high t_creeks t_houses t_widows t_acts), (b 4, oX6 bn n_field n_houses), (bn 1, .inl (cI, 7, .inl n_f1)), (bn 4, .inl (cI, 7, .inl n_f4))]) [0, 4, 1, 2, 3] rfl) (hD.sub (ws' := [(h0, oX9 b), (b 1, oX0 bt t_lines t_span t_rule t_odds t_wide t_high t_creeks t_houses t_widows t_acts), (b 4, oX6 bn n_field n_houses), (bn 1, .inl (cI, 7, .inl n_f1)), (bn 4, .inl (cI, 7, .inl n_f4))]) [0, 4, 1, 2, 3] rfl rfl) hS dX9_moves_14 trivial
set_option maxHeartbeats 4000000 in
set_option maxRecDepth 100000 in
theorem f_X9_served (l : Launch) (G : va_G) (cI cJ cZ cB cQ : ClassId) (sz : Nat) (h0 : Nat) (p0 : Int32) (b : Nat → Nat) (bt : Nat → Nat) (t_lines : Int32) (t_span : Int32) (t_rule : Int32) (t_odds : Int32) (t_wide : Int32) (t_high : Int32) (t_creeks : Int32) (t_houses : Int32) (t_widows : Int32) (t_acts : Int32) (bn : Nat → Nat) (n_field : Int64) (n_houses : Int32) (n_f6 : Nat → Int32) (n_f7 : Nat → Int64) (hl_t_span : 0 ≤ t_span.toInt) (hh_t_span : t_span.toInt ≤ 12) (hl_t_rule : 0 ≤ t_rule.toInt) (hh_t_rule : t_rule.toInt ≤ 3) (hl_t_odds : 0 ≤ t_odds.toInt) (hh_t_odds : t_odds.toInt ≤ 10) (hl_t_wide : 0 ≤ t_wide.toInt) (hh_t_wide : t_wide.toInt ≤ 8) (hl_t_high : 0 ≤ t_high.toInt) (hh_t_high : t_high.toInt ≤ 8) (hl_t_creeks : 0 ≤ t_creeks.toInt) (hh_t_creeks : t_creeks.toInt ≤ 12) (hl_t_houses : 0 ≤ t_houses.toInt) (hh_t_houses : t_houses.toInt ≤ 6) (hl_t_widows : 0 ≤ t_widows.toInt) (hh_t_widows : t_widows.toInt ≤ 7) (hl_t_acts : 0 ≤ t_acts.toInt) (hh_t_acts : t_acts.toInt ≤ 30) (hl_n_houses : 0 ≤ n_houses.toInt) (hh_n_houses : n_houses.toInt ≤ 6) : CI l yX9_served (wl_ yX9_served cX9_served 5 (some .int)) ({ frames := 2, cells := 0, slots := 0, locals := 45 } : Room) G (TY cI cJ cZ cB cQ) [.ref h0, .int p0] [(h0, oX9 b), (b 1, oX0 bt t_lines t_span t_rule t_odds t_wide t_high t_creeks t_houses t_widows t_acts), (b 4, oX6 bn n_field n_houses), (bn 6, .inl (cI, 78, .inl n_f6)), (bn 7, .inl (cJ, 13, .inr (.inl n_f7)))] sz (fun (r : Int32) (u : Unit) => True) (fun _ : Unit => [(h0, oX9 b), (b 1, oX0 bt t_lines t_span t_rule t_odds t_wide t_high t_creeks t_houses t_widows t_acts), (b 4, oX6 bn n_field n_houses), (bn 6, .inl (cI, 78, .inl n_f6)), (bn 7, .inl (cJ, 13, .inr (.inl n_f7)))]) 0 0 := by
  refine CI.go (cc := cX9_served) (maxL := 5) (ret := (some .int)) (by decide) rfl (Nat.le_of_ble_eq_true rfl) ?_
  intro p e s m below meth c A ls Q hBd hret
  obtain ⟨hx, hb, hr, hml, hts, hown, hlk, hnm, hP, hK, hD, hA, hZ, hl⟩ := hBd
  have hown : s.vm.findClass RX9 = some m.cls := hown
  have hl : lv_has ls 5 [(0, .ref h0), (1, .int p0)] := hl
  have hS : va_S A s.heap s.heap [] := va_S.rf
  refine lv_aload_n hx hb dX9_served_0 rfl (lv_at hl 0 rfl) ?_
  refine va_get (D := G) (ci := 9) (v := .ref (b 1)) (C := RX9) (T := TX9) (N := 11) hx hb hts iG_X9 hown hK hP 0 rfl rfl 1 (by decide) (hts _ w_352) (fun _ h9 => h9) rfl dX9_served_1 ?_
  refine lv_iload_n hx hb dX9_served_4 rfl (lv_at hl 1 rfl) ?_
  refine k_i (wc := [(b 1, oX0 bt t_lines t_span t_rule t_odds t_wide t_high t_creeks t_houses t_widows t_acts)]) (wr := [(h0, oX9 b), (b 4, oX6 bn n_field n_houses), (bn 6, .inl (cI, 78, .inl n_f6)), (bn 7, .inl (cJ, 13, .inr (.inl n_f7)))]) hP hD hS hA [1] [0, 2, 3, 4] rfl rfl rfl (by decide) (va_runVN (As := [.int p0]) (rest := []) ⟨hx, hb, hml, hown, hts⟩ (f_X0_hasYear l G cI cJ cZ cB cQ _ (b 1) p0 p0.toInt bt t_lines t_span t_rule t_odds t_wide t_high t_creeks t_houses t_widows t_acts rfl hl_t_span hh_t_span hl_t_rule hh_t_rule hl_t_odds hh_t_odds hl_t_wide hh_t_wide hl_t_high hh_t_high hl_t_creeks hh_t_creeks hl_t_houses hh_t_houses hl_t_widows hh_t_widows hl_t_acts hh_t_acts) ⟨va_cnB (host := "WidowRoads") 1 hts (gW w_727) rfl rfl rfl (nz_nw hZ nw_724 rfl) (hts _ w_4) hd_X0_hasYear ⟨Nat.le_of_ble_eq_true rfl, Nat.le_of_ble_eq_true rfl⟩, (hts _ w_726), (hts _ wp_39)⟩ (mV hK hZ hP hD [1] rfl rfl [.int p0] 1 0 rfl rfl) rfl rfl hl.1 rfl (lv_room (Nat.le_of_ble_eq_true rfl)) dX9_served_5 ⟨Nat.le_of_ble_eq_true rfl, Nat.le_of_ble_eq_true rfl⟩) (fun r1 u2 H locs hw3 hP hD hS => ?_)
  try dsimp only at hw3
  have hP : va_P G vwCl [(h0, oX9 b), (b 4, oX6 bn n_field n_houses), (bn 6, .inl (cI, 78, .inl n_f6)), (bn 7, .inl (cJ, 13, .inr (.inl n_f7))), (b 1, oX0 bt t_lines t_span t_rule t_odds t_wide t_high t_creeks t_houses t_widows t_acts)] H := hP
  have hD : va_D A [(h0, oX9 b), (b 4, oX6 bn n_field n_houses), (bn 6, .inl (cI, 78, .inl n_f6)), (bn 7, .inl (cJ, 13, .inr (.inl n_f7))), (b 1, oX0 bt t_lines t_span t_rule t_odds t_wide t_high t_creeks t_houses t_widows t_acts)] := hD
  rcases hw3 with ⟨rfl, a5, a6⟩ | rfl
  · skip
    refine lv_if_ne (tgt := 14) hx hb dX9_served_8 (by decide) (fun c7 => ?_) (fun c7 => absurd c7 (by decide))
    refine lv_iconst (v := 0) hx hb dX9_served_14 (by decide) ?_
    refine lv_istore_n (lv' := [(2, .int 0), (0, .ref h0), (1, .int p0)]) hx hb dX9_served_15 rfl hl (by decide) rfl (fun ls hl => ?_)
    refine lv_iconst (v := 0) hx hb dX9_served_16 (by decide) ?_
    refine lv_istore_n (lv' := [(3, .int 0), (2, .int 0), (0, .ref h0), (1, .int p0)]) hx hb dX9_served_17 rfl hl (by decide) rfl (fun ls hl => ?_)
    have lp8 : ∀ (n9 : Nat) (x10 : Int32) (x11 : Int32), 0 ≤ x11.toInt → x11.toInt ≤ 6 → 6 - x11.toInt < (n9 : Int) → ∀ (H : Heap) (locs : List Loc), va_P G vwCl [(h0, oX9 b), (b 4, oX6 bn n_field n_houses), (bn 6, .inl (cI, 78, .inl n_f6)), (bn 7, .inl (cJ, 13, .inr (.inl n_f7))), (b 1, oX0 bt t_lines t_span t_rule t_odds t_wide t_high t_creeks t_houses t_widows t_acts)] H → va_D A [(h0, oX9 b), (b 4, oX6 bn n_field n_houses), (bn 6, .inl (cI, 78, .inl n_f6)), (bn 7, .inl (cJ, 13, .inr (.inl n_f7))), (b 1, oX0 bt t_lines t_span t_rule t_odds t_wide t_high t_creeks t_houses t_widows t_acts)] → va_S A s.heap H locs → ∀ (ls : Array Slot), lv_has ls 5 [(3, .int x11), (2, .int x10), (0, .ref h0), (1, .int p0)] → W p l e ({ frames := 2, cells := 0, slots := 0, locals := 45 } : Room) s m ([.ref h0, .int p0] : List Value).toArray below meth c H locs 0 0 Q (F0 m 18 ls []) := by
      intro n9
      induction n9 with
      | zero =>
        intro x10 x11 k12 k13 mm15
        exact absurd mm15 (by have q9 := fb_rng x11; omega)
      | succ n9 ih14 =>
        intro x10 x11 k12 k13 mm15 H locs hP hD hS ls hl
        refine lv_iload_n hx hb dX9_served_18 rfl (lv_at hl 0 rfl) ?_
        refine lv_aload_n hx hb dX9_served_19 rfl (lv_at hl 2 rfl) ?_
        refine va_get (D := G) (ci := 9) (v := .ref (b 1)) (C := RX9) (T := TX9) (N := 11) hx hb hts iG_X9 hown hK hP 0 rfl rfl 1 (by decide) (hts _ w_352) (fun _ h9 => h9) rfl dX9_served_20 ?_
        refine va_getN (D := G) (ci := 0) (v := .int t_houses) (C := RX0) (T := TX0) (N := 19) hx hb hts iG_X0 hown hK hP 4 rfl rfl 7 (by decide) (nz_use hZ nw_83 rfl) (fun _ h9 => h9) rfl dX9_served_23 ?_
        refine lv_icmp_ge (tgt := 80) hx hb dX9_served_26 (by decide) (fun c16 => ?_) (fun c16 => ?_)
        · have c16 := i_le rfl rfl c16
          refine lv_iload_n hx hb dX9_served_80 rfl (lv_at hl 1 rfl) ?_
          exact hret _ _ _ _ x10 () (hP.sub (ws' := [(h0, oX9 b), (b 1, oX0 bt t_lines t_span t_rule t_odds t_wide t_high t_creeks t_houses t_widows t_acts), (b 4, oX6 bn n_field n_houses), (bn 6, .inl (cI, 78, .inl n_f6)), (bn 7, .inl (cJ, 13, .inr (.inl n_f7)))]) [0, 4, 1, 2, 3] rfl) (hD.sub (ws' := [(h0, oX9 b), (b 1, oX0 bt t_lines t_span t_rule t_odds t_wide t_high t_creeks t_houses t_widows t_acts), (b 4, oX6 bn n_field n_houses), (bn 6, .inl (cI, 78, .inl n_f6)), (bn 7, .inl (cJ, 13, .inr (.inl n_f7)))]) [0, 4, 1, 2, 3] rfl rfl) hS dX9_served_81 trivial
        · have c16 := i_nle rfl rfl c16
          refine lv_aload_n hx hb dX9_served_29 rfl (lv_at hl 2 rfl) ?_
          refine va_get (D := G) (ci := 9) (v := .ref (b 4)) (C := RX9) (T := TX9) (N := 11) hx hb hts iG_X9 hown hK hP 0 rfl rfl 4 (by decide) (hts _ w_355) (fun _ h9 => h9) rfl dX9_served_30 ?_
          refine va_getN (D := G) (ci := 6) (v := .ref (bn 6)) (C := RX6) (T := TX6) (N := 12) hx hb hts iG_X6 hown hK hP 1 rfl rfl 6 (by decide) (nz_use hZ nw_245 rfl) (fun _ h9 => h9) rfl dX9_served_33 ?_
          refine lv_iload_n hx hb dX9_served_36 rfl (lv_at hl 3 rfl) ?_
          refine lv_bipush (v := 6) hx hb dX9_served_37 (by decide) ?_
          refine lv_imul hx hb dX9_served_39 ?_
          refine lv_topi (fun v17 ev17 => ?_)
          have tv17 : v17.toInt = p0.toInt * 6 := ti_mul rfl ki_6 ev17 (by omega) (by omega)
          refine lv_iload_n hx hb dX9_served_40 rfl (lv_at hl 0 rfl) ?_
          refine lv_iadd hx hb dX9_served_41 ?_
          refine lv_topi (fun v18 ev18 => ?_)
          have tv18 : v18.toInt = p0.toInt * 6 + x11.toInt := ti_add tv17 rfl ev18 (by omega) (by omega)
          refine va_iald hx hb hK hP 2 0 rfl rfl (ix_in tv18 (by omega) (by omega)) dX9_served_42 ?_
          refine lv_topi (fun v19 ev19 => ?_)
          refine lv_istore (lv' := [(4, .int v19), (3, .int x11), (2, .int x10), (0, .ref h0), (1, .int p0)]) hx hb dX9_served_43 hl (by decide) rfl (fun ls hl => ?_)
          refine lv_iload hx hb dX9_served_45 (lv_at hl 0 rfl) ?_
          refine lv_iconst (v := (-1)) hx hb dX9_served_47 (by decide) ?_
          refine lv_icmp_eq (tgt := 74) hx hb dX9_served_48 (by decide) (fun c20 => ?_) (fun c20 => ?_)
          · have c20 := i_eq rfl ki_m1 c20
            obtain ⟨v21, ev21⟩ : ∃ y : Int32, y = x11 + 1 := ⟨_, rfl⟩
            have tv21 : v21.toInt = x11.toInt + 1 := ti_add rfl ki_1 ev21 (by omega) (by omega)
            refine lv_iinc (v := v21) (lv' := [(3, .int v21), (4, .int v19), (2, .int x10), (0, .ref h0), (1, .int p0)]) hx hb dX9_served_74 hl (k := 1) rfl (by rw [ev21]; rfl) (by decide) rfl (fun ls hl => ?_)
            refine lv_goto (tgt := 18) hx hb dX9_served_77 (by decide) ?_
            exact ih14 x10 v21 (by omega) (by omega) (by omega) _ _ hP hD hS ls (lv_sub hl [0, 2, 3, 4] rfl)
          · have c20 := i_ne rfl ki_m1 c20
            refine lv_iload hx hb dX9_served_51 (lv_at hl 0 rfl) ?_
            refine k_l (wc := []) (wr := [(h0, oX9 b), (b 4, oX6 bn n_field n_houses), (bn 6, .inl (cI, 78, .inl n_f6)), (bn 7, .inl (cJ, 13, .inr (.inl n_f7))), (b 1, oX0 bt t_lines t_span t_rule t_odds t_wide t_high t_creeks t_houses t_widows t_acts)]) hP hD hS hA [] [0, 1, 2, 3, 4] rfl rfl rfl (by decide) (va_runS (As := [.int v19]) (rest := []) ⟨hx, hb, hml, hown, hts⟩ (f_X9_around l G cI cJ cZ cB cQ _ v19) (va_cwS 1 hts (gS w_906 w_907 w_1 w_908) rfl rfl rfl hd_X9_around ⟨Nat.le_of_ble_eq_true rfl, Nat.le_of_ble_eq_true rfl⟩) (mS hK hZ hP hD [] rfl rfl [.int v19]) rfl rfl hl.1 rfl (lv_room (Nat.le_of_ble_eq_true rfl)) dX9_served_53 ⟨Nat.le_of_ble_eq_true rfl, Nat.le_of_ble_eq_true rfl⟩) (fun r22 u23 H locs hw24 hP hD hS => ?_)
            try dsimp only at hw24
            have hP : va_P G vwCl [(h0, oX9 b), (b 4, oX6 bn n_field n_houses), (bn 6, .inl (cI, 78, .inl n_f6)), (bn 7, .inl (cJ, 13, .inr (.inl n_f7))), (b 1, oX0 bt t_lines t_span t_rule t_odds t_wide t_high t_creeks t_houses t_widows t_acts)] H := hP
            have hD : va_D A [(h0, oX9 b), (b 4, oX6 bn n_field n_houses), (bn 6, .inl (cI, 78, .inl n_f6)), (bn 7, .inl (cJ, 13, .inr (.inl n_f7))), (b 1, oX0 bt t_lines t_span t_rule t_odds t_wide t_high t_creeks t_houses t_widows t_acts)] := hD
            refine lv_aload_n hx hb dX9_served_56 rfl (lv_at hl 3 rfl) ?_
            refine va_get (D := G) (ci := 9) (v := .ref (b 4)) (C := RX9) (T := TX9) (N := 11) hx hb hts iG_X9 hown hK hP 0 rfl rfl 4 (by decide) (hts _ w_355) (fun _ h9 => h9) rfl dX9_served_57 ?_
            refine va_getN (D := G) (ci := 6) (v := .ref (bn 7)) (C := RX6) (T := TX6) (N := 12) hx hb hts iG_X6 hown hK hP 1 rfl rfl 7 (by decide) (nz_use hZ nw_249 rfl) (fun _ h9 => h9) rfl dX9_served_60 ?_
            refine lv_iload_n hx hb dX9_served_63 rfl (lv_at hl 4 rfl) ?_
            refine va_lald hx hb hK hP 3 1 rfl rfl (ix_in rfl (by omega) (by omega)) dX9_served_64 ?_
            refine lv_topl (fun v25 ev25 => ?_)
            refine lv_land hx hb dX9_served_65 ?_
            refine lv_topl (fun v26 ev26 => ?_)
            refine lv_lconst (v := 0) hx hb dX9_served_66 (by decide) ?_
            refine W.lcmp hx hb dX9_served_67 ?_
            refine lv_if_eq (tgt := 74) hx hb dX9_served_68 (by decide) (fun c27 => ?_) (fun c27 => ?_)
            · have c27 := c_eq rfl kl_0 c27
              obtain ⟨v28, ev28⟩ : ∃ y : Int32, y = x11 + 1 := ⟨_, rfl⟩
              have tv28 : v28.toInt = x11.toInt + 1 := ti_add rfl ki_1 ev28 (by omega) (by omega)
              refine lv_iinc (v := v28) (lv' := [(3, .int v28), (4, .int v19), (2, .int x10), (0, .ref h0), (1, .int p0)]) hx hb dX9_served_74 hl (k := 1) rfl (by rw [ev28]; rfl) (by decide) rfl (fun ls hl => ?_)
              refine lv_goto (tgt := 18) hx hb dX9_served_77 (by decide) ?_
              exact ih14 x10 v28 (by omega) (by omega) (by omega) _ _ hP hD hS ls (lv_sub hl [0, 2, 3, 4] rfl)
            · have c27 := c_neq rfl kl_0 c27
              obtain ⟨v29, ev29⟩ : ∃ y : Int32, y = x10 + 1 := ⟨_, rfl⟩
              refine lv_iinc (v := v29) (lv' := [(2, .int v29), (4, .int v19), (3, .int x11), (0, .ref h0), (1, .int p0)]) hx hb dX9_served_71 hl (k := 2) rfl (by rw [ev29]; rfl) (by decide) rfl (fun ls hl => ?_)
              obtain ⟨v30, ev30⟩ : ∃ y : Int32, y = x11 + 1 := ⟨_, rfl⟩
              have tv30 : v30.toInt = x11.toInt + 1 := ti_add rfl ki_1 ev30 (by omega) (by omega)
              refine lv_iinc (v := v30) (lv' := [(3, .int v30), (2, .int v29), (4, .int v19), (0, .ref h0), (1, .int p0)]) hx hb dX9_served_74 hl (k := 2) rfl (by rw [ev30]; rfl) (by decide) rfl (fun ls hl => ?_)
              refine lv_goto (tgt := 18) hx hb dX9_served_77 (by decide) ?_
              exact ih14 v29 v30 (by omega) (by omega) (by omega) _ _ hP hD hS ls (lv_sub hl [0, 1, 3, 4] rfl)
    exact lp8 7 0 0 (by rw [ki_0]; decide) (by rw [ki_0]; decide) (by rw [ki_0]; decide) _ _ hP hD hS ls (lv_sub hl [0, 1, 2, 3] rfl)
  · skip
    refine lv_if_ne (tgt := 14) hx hb dX9_served_8 (by decide) (fun c31 => absurd (by decide) c31) (fun c31 => ?_)
    refine lv_bipush (v := (-2)) hx hb dX9_served_11 (by decide) ?_
    exact hret _ _ _ _ (-2) () (hP.sub (ws' := [(h0, oX9 b), (b 1, oX0 bt t_lines t_span t_rule t_odds t_wide t_high t_creeks t_houses t_widows t_acts), (b 4, oX6 bn n_field n_houses), (bn 6, .inl (cI, 78, .inl n_f6)), (bn 7, .inl (cJ, 13, .inr (.inl n_f7)))]) [0, 4, 1, 2, 3] rfl) (hD.sub (ws' := [(h0, oX9 b), (b 1, oX0 bt t_lines t_span t_rule t_odds t_wide t_high t_creeks t_houses t_widows t_acts), (b 4, oX6 bn n_field n_houses), (bn 6, .inl (cI, 78, .inl n_f6)), (bn 7, .inl (cJ, 13, .inr (.inl n_f7)))]) [0, 4, 1, 2, 3] rfl rfl) hS dX9_served_13 trivial
set_option maxHeartbeats 4000000 in
set_option maxRecDepth 100000 in
theorem f_X9_cover (l : Launch) (G : va_G) (cI cJ cZ cB cQ : ClassId) (sz : Nat) (h0 : Nat) (b : Nat → Nat) (bt : Nat → Nat) (t_lines : Int32) (t_span : Int32) (t_rule : Int32) (t_odds : Int32) (t_wide : Int32) (t_high : Int32) (t_creeks : Int32) (t_houses : Int32) (t_widows : Int32) (t_acts : Int32) (bn : Nat → Nat) (n_field : Int64) (n_houses : Int32) (n_f3 : Nat → Int64) (n_f7 : Nat → Int64) (hl_t_span : 0 ≤ t_span.toInt) (hh_t_span : t_span.toInt ≤ 12) (hl_t_rule : 0 ≤ t_rule.toInt) (hh_t_rule : t_rule.toInt ≤ 3) (hl_t_odds : 0 ≤ t_odds.toInt) (hh_t_odds : t_odds.toInt ≤ 10) (hl_t_wide : 0 ≤ t_wide.toInt) (hh_t_wide : t_wide.toInt ≤ 8) (hl_t_high : 0 ≤ t_high.toInt) (hh_t_high : t_high.toInt ≤ 8) (hl_t_creeks : 0 ≤ t_creeks.toInt) (hh_t_creeks : t_creeks.toInt ≤ 12) (hl_t_houses : 0 ≤ t_houses.toInt) (hh_t_houses : t_houses.toInt ≤ 6) (hl_t_widows : 0 ≤ t_widows.toInt) (hh_t_widows : t_widows.toInt ≤ 7) (hl_t_acts : 0 ≤ t_acts.toInt) (hh_t_acts : t_acts.toInt ≤ 30) (hl_n_houses : 0 ≤ n_houses.toInt) (hh_n_houses : n_houses.toInt ≤ 6) : CI l yX9_cover (wl_ yX9_cover cX9_cover 1 (some .int)) ({ frames := 2, cells := 0, slots := 0, locals := 48 } : Room) G (TY cI cJ cZ cB cQ) [.ref h0] [(h0, oX9 b), (b 1, oX0 bt t_lines t_span t_rule t_odds t_wide t_high t_creeks t_houses t_widows t_acts), (b 4, oX6 bn n_field n_houses), (bn 3, .inl (cJ, 7, .inr (.inl n_f3))), (bn 7, .inl (cJ, 13, .inr (.inl n_f7)))] sz (fun (r : Int32) (u : Unit) => True) (fun _ : Unit => [(h0, oX9 b), (b 1, oX0 bt t_lines t_span t_rule t_odds t_wide t_high t_creeks t_houses t_widows t_acts), (b 4, oX6 bn n_field n_houses), (bn 3, .inl (cJ, 7, .inr (.inl n_f3))), (bn 7, .inl (cJ, 13, .inr (.inl n_f7)))]) 0 0 := by
  refine CI.go (cc := cX9_cover) (maxL := 1) (ret := (some .int)) (by decide) rfl (Nat.le_of_ble_eq_true rfl) ?_
  intro p e s m below meth c A ls Q hBd hret
  obtain ⟨hx, hb, hr, hml, hts, hown, hlk, hnm, hP, hK, hD, hA, hZ, hl⟩ := hBd
  have hown : s.vm.findClass RX9 = some m.cls := hown
  have hl : lv_has ls 1 [(0, .ref h0)] := hl
  have hS : va_S A s.heap s.heap [] := va_S.rf
  refine lv_aload_n hx hb dX9_cover_0 rfl (lv_at hl 0 rfl) ?_
  refine va_get (D := G) (ci := 9) (v := .ref (b 1)) (C := RX9) (T := TX9) (N := 11) hx hb hts iG_X9 hown hK hP 0 rfl rfl 1 (by decide) (hts _ w_352) (fun _ h9 => h9) rfl dX9_cover_1 ?_
  refine va_getN (D := G) (ci := 0) (v := .int t_lines) (C := RX0) (T := TX0) (N := 19) hx hb hts iG_X0 hown hK hP 1 rfl rfl 0 (by decide) (nz_use hZ nw_57 rfl) (fun _ h9 => h9) rfl dX9_cover_4 ?_
  refine lv_if_ne (tgt := 15) hx hb dX9_cover_7 (by decide) (fun c1 => ?_) (fun c1 => ?_)
  · have c1 := i_ne rfl ki_0 c1
    refine lv_aload_n hx hb dX9_cover_15 rfl (lv_at hl 0 rfl) ?_
    refine k_i (wc := [(h0, oX9 b), (b 1, oX0 bt t_lines t_span t_rule t_odds t_wide t_high t_creeks t_houses t_widows t_acts), (b 4, oX6 bn n_field n_houses), (bn 3, .inl (cJ, 7, .inr (.inl n_f3))), (bn 7, .inl (cJ, 13, .inr (.inl n_f7)))]) (wr := []) hP hD hS hA [0, 1, 2, 3, 4] [] rfl rfl rfl (by decide) (va_runV (As := []) (rest := []) ⟨hx, hb, hml, hown, hts⟩ (f_X9_fewestCovering l G cI cJ cZ cB cQ _ h0 b bt t_lines t_span t_rule t_odds t_wide t_high t_creeks t_houses t_widows t_acts bn n_field n_houses n_f3 n_f7 hl_t_span hh_t_span hl_t_rule hh_t_rule hl_t_odds hh_t_odds hl_t_wide hh_t_wide hl_t_high hh_t_high hl_t_creeks hh_t_creeks hl_t_houses hh_t_houses hl_t_widows hh_t_widows hl_t_acts hh_t_acts hl_n_houses hh_n_houses) (cwV 0 hts (gV w_915 w_917 wp_55 w_1 w_918) rfl rfl rfl ⟨rfl, hd_X9_fewestCovering⟩ ⟨Nat.le_of_ble_eq_true rfl, Nat.le_of_ble_eq_true rfl⟩) (mV hK hZ hP hD [0, 1, 2, 3, 4] rfl rfl [] 0 9 rfl rfl) rfl rfl hl.1 rfl (lv_room (Nat.le_of_ble_eq_true rfl)) dX9_cover_16 ⟨Nat.le_of_ble_eq_true rfl, Nat.le_of_ble_eq_true rfl⟩) (fun r2 u3 H locs hw4 hP hD hS => ?_)
    try dsimp only at hw4
    have hP : va_P G vwCl [(h0, oX9 b), (b 1, oX0 bt t_lines t_span t_rule t_odds t_wide t_high t_creeks t_houses t_widows t_acts), (b 4, oX6 bn n_field n_houses), (bn 3, .inl (cJ, 7, .inr (.inl n_f3))), (bn 7, .inl (cJ, 13, .inr (.inl n_f7)))] H := hP
    have hD : va_D A [(h0, oX9 b), (b 1, oX0 bt t_lines t_span t_rule t_odds t_wide t_high t_creeks t_houses t_widows t_acts), (b 4, oX6 bn n_field n_houses), (bn 3, .inl (cJ, 7, .inr (.inl n_f3))), (bn 7, .inl (cJ, 13, .inr (.inl n_f7)))] := hD
    refine k_i (wc := []) (wr := [(h0, oX9 b), (b 1, oX0 bt t_lines t_span t_rule t_odds t_wide t_high t_creeks t_houses t_widows t_acts), (b 4, oX6 bn n_field n_houses), (bn 3, .inl (cJ, 7, .inr (.inl n_f3))), (bn 7, .inl (cJ, 13, .inr (.inl n_f7)))]) hP hD hS hA [] [0, 1, 2, 3, 4] rfl rfl rfl (by decide) (va_runS (As := [.int r2]) (rest := []) ⟨hx, hb, hml, hown, hts⟩ (f_J6_bitCount_0f7a4 l G cI cJ cZ cB cQ _ r2) (va_cwS 1 hts (gS w_865 w_798 w_19 w_799) rfl rfl rfl hd_J6_bitCount_0f7a4 ⟨Nat.le_of_ble_eq_true rfl, Nat.le_of_ble_eq_true rfl⟩) (mS hK hZ hP hD [] rfl rfl [.int r2]) rfl rfl hl.1 rfl (lv_room (Nat.le_of_ble_eq_true rfl)) dX9_cover_19 ⟨Nat.le_of_ble_eq_true rfl, Nat.le_of_ble_eq_true rfl⟩) (fun r5 u6 H locs hw7 hP hD hS => ?_)
    try dsimp only at hw7
    have hP : va_P G vwCl [(h0, oX9 b), (b 1, oX0 bt t_lines t_span t_rule t_odds t_wide t_high t_creeks t_houses t_widows t_acts), (b 4, oX6 bn n_field n_houses), (bn 3, .inl (cJ, 7, .inr (.inl n_f3))), (bn 7, .inl (cJ, 13, .inr (.inl n_f7)))] H := hP
    have hD : va_D A [(h0, oX9 b), (b 1, oX0 bt t_lines t_span t_rule t_odds t_wide t_high t_creeks t_houses t_widows t_acts), (b 4, oX6 bn n_field n_houses), (bn 3, .inl (cJ, 7, .inr (.inl n_f3))), (bn 7, .inl (cJ, 13, .inr (.inl n_f7)))] := hD
    obtain ⟨w8, w9⟩ : 0 ≤ r5.toInt ∧ r5.toInt ≤ 63 := hw7
    exact hret _ _ _ _ r5 () hP hD hS dX9_cover_22 trivial
  · have c1 := i_eq rfl ki_0 c1
    refine lv_bipush (v := (-2)) hx hb dX9_cover_10 (by decide) ?_
    refine lv_goto (tgt := 22) hx hb dX9_cover_12 (by decide) ?_
    exact hret _ _ _ _ (-2) () hP hD hS dX9_cover_22 trivial
set_option maxHeartbeats 4000000 in
set_option maxRecDepth 100000 in
theorem f_X9_covers (l : Launch) (G : va_G) (cI cJ cZ cB cQ : ClassId) (sz : Nat) (h0 : Nat) (b : Nat → Nat) (bt : Nat → Nat) (t_lines : Int32) (t_span : Int32) (t_rule : Int32) (t_odds : Int32) (t_wide : Int32) (t_high : Int32) (t_creeks : Int32) (t_houses : Int32) (t_widows : Int32) (t_acts : Int32) (bn : Nat → Nat) (n_field : Int64) (n_houses : Int32) (n_f3 : Nat → Int64) (n_f7 : Nat → Int64) (hl_t_span : 0 ≤ t_span.toInt) (hh_t_span : t_span.toInt ≤ 12) (hl_t_rule : 0 ≤ t_rule.toInt) (hh_t_rule : t_rule.toInt ≤ 3) (hl_t_odds : 0 ≤ t_odds.toInt) (hh_t_odds : t_odds.toInt ≤ 10) (hl_t_wide : 0 ≤ t_wide.toInt) (hh_t_wide : t_wide.toInt ≤ 8) (hl_t_high : 0 ≤ t_high.toInt) (hh_t_high : t_high.toInt ≤ 8) (hl_t_creeks : 0 ≤ t_creeks.toInt) (hh_t_creeks : t_creeks.toInt ≤ 12) (hl_t_houses : 0 ≤ t_houses.toInt) (hh_t_houses : t_houses.toInt ≤ 6) (hl_t_widows : 0 ≤ t_widows.toInt) (hh_t_widows : t_widows.toInt ≤ 7) (hl_t_acts : 0 ≤ t_acts.toInt) (hh_t_acts : t_acts.toInt ≤ 30) (hl_n_houses : 0 ≤ n_houses.toInt) (hh_n_houses : n_houses.toInt ≤ 6) : CI l yX9_covers (wl_ yX9_covers cX9_covers 1 (some .int)) ({ frames := 2, cells := 0, slots := 0, locals := 48 } : Room) G (TY cI cJ cZ cB cQ) [.ref h0] [(h0, oX9 b), (b 1, oX0 bt t_lines t_span t_rule t_odds t_wide t_high t_creeks t_houses t_widows t_acts), (b 4, oX6 bn n_field n_houses), (bn 3, .inl (cJ, 7, .inr (.inl n_f3))), (bn 7, .inl (cJ, 13, .inr (.inl n_f7)))] sz (fun (r : Int32) (u : Unit) => True) (fun _ : Unit => [(h0, oX9 b), (b 1, oX0 bt t_lines t_span t_rule t_odds t_wide t_high t_creeks t_houses t_widows t_acts), (b 4, oX6 bn n_field n_houses), (bn 3, .inl (cJ, 7, .inr (.inl n_f3))), (bn 7, .inl (cJ, 13, .inr (.inl n_f7)))]) 0 0 := by
  refine CI.go (cc := cX9_covers) (maxL := 1) (ret := (some .int)) (by decide) rfl (Nat.le_of_ble_eq_true rfl) ?_
  intro p e s m below meth c A ls Q hBd hret
  obtain ⟨hx, hb, hr, hml, hts, hown, hlk, hnm, hP, hK, hD, hA, hZ, hl⟩ := hBd
  have hown : s.vm.findClass RX9 = some m.cls := hown
  have hl : lv_has ls 1 [(0, .ref h0)] := hl
  have hS : va_S A s.heap s.heap [] := va_S.rf
  refine lv_aload_n hx hb dX9_covers_0 rfl (lv_at hl 0 rfl) ?_
  refine va_get (D := G) (ci := 9) (v := .ref (b 1)) (C := RX9) (T := TX9) (N := 11) hx hb hts iG_X9 hown hK hP 0 rfl rfl 1 (by decide) (hts _ w_352) (fun _ h9 => h9) rfl dX9_covers_1 ?_
  refine va_getN (D := G) (ci := 0) (v := .int t_lines) (C := RX0) (T := TX0) (N := 19) hx hb hts iG_X0 hown hK hP 1 rfl rfl 0 (by decide) (nz_use hZ nw_57 rfl) (fun _ h9 => h9) rfl dX9_covers_4 ?_
  refine lv_if_ne (tgt := 15) hx hb dX9_covers_7 (by decide) (fun c1 => ?_) (fun c1 => ?_)
  · have c1 := i_ne rfl ki_0 c1
    refine lv_aload_n hx hb dX9_covers_15 rfl (lv_at hl 0 rfl) ?_
    refine k_i (wc := [(h0, oX9 b), (b 1, oX0 bt t_lines t_span t_rule t_odds t_wide t_high t_creeks t_houses t_widows t_acts), (b 4, oX6 bn n_field n_houses), (bn 3, .inl (cJ, 7, .inr (.inl n_f3))), (bn 7, .inl (cJ, 13, .inr (.inl n_f7)))]) (wr := []) hP hD hS hA [0, 1, 2, 3, 4] [] rfl rfl rfl (by decide) (va_runV (As := []) (rest := []) ⟨hx, hb, hml, hown, hts⟩ (f_X9_fewestCovering l G cI cJ cZ cB cQ _ h0 b bt t_lines t_span t_rule t_odds t_wide t_high t_creeks t_houses t_widows t_acts bn n_field n_houses n_f3 n_f7 hl_t_span hh_t_span hl_t_rule hh_t_rule hl_t_odds hh_t_odds hl_t_wide hh_t_wide hl_t_high hh_t_high hl_t_creeks hh_t_creeks hl_t_houses hh_t_houses hl_t_widows hh_t_widows hl_t_acts hh_t_acts hl_n_houses hh_n_houses) (cwV 0 hts (gV w_915 w_917 wp_55 w_1 w_918) rfl rfl rfl ⟨rfl, hd_X9_fewestCovering⟩ ⟨Nat.le_of_ble_eq_true rfl, Nat.le_of_ble_eq_true rfl⟩) (mV hK hZ hP hD [0, 1, 2, 3, 4] rfl rfl [] 0 9 rfl rfl) rfl rfl hl.1 rfl (lv_room (Nat.le_of_ble_eq_true rfl)) dX9_covers_16 ⟨Nat.le_of_ble_eq_true rfl, Nat.le_of_ble_eq_true rfl⟩) (fun r2 u3 H locs hw4 hP hD hS => ?_)
    try dsimp only at hw4
    have hP : va_P G vwCl [(h0, oX9 b), (b 1, oX0 bt t_lines t_span t_rule t_odds t_wide t_high t_creeks t_houses t_widows t_acts), (b 4, oX6 bn n_field n_houses), (bn 3, .inl (cJ, 7, .inr (.inl n_f3))), (bn 7, .inl (cJ, 13, .inr (.inl n_f7)))] H := hP
    have hD : va_D A [(h0, oX9 b), (b 1, oX0 bt t_lines t_span t_rule t_odds t_wide t_high t_creeks t_houses t_widows t_acts), (b 4, oX6 bn n_field n_houses), (bn 3, .inl (cJ, 7, .inr (.inl n_f3))), (bn 7, .inl (cJ, 13, .inr (.inl n_f7)))] := hD
    exact hret _ _ _ _ r2 () hP hD hS dX9_covers_19 trivial
  · have c1 := i_eq rfl ki_0 c1
    refine lv_bipush (v := (-2)) hx hb dX9_covers_10 (by decide) ?_
    refine lv_goto (tgt := 19) hx hb dX9_covers_12 (by decide) ?_
    exact hret _ _ _ _ (-2) () hP hD hS dX9_covers_19 trivial
set_option maxHeartbeats 4000000 in
set_option maxRecDepth 100000 in
theorem f_X9_blame (l : Launch) (G : va_G) (cI cJ cZ cB cQ : ClassId) (sz : Nat) (h0 : Nat) (b : Nat → Nat) (bt : Nat → Nat) (t_lines : Int32) (t_span : Int32) (t_rule : Int32) (t_odds : Int32) (t_wide : Int32) (t_high : Int32) (t_creeks : Int32) (t_houses : Int32) (t_widows : Int32) (t_acts : Int32) (t_f10 : Nat → Int32) (t_f11 : Nat → Int32) (t_f12 : Nat → Int32) (t_f13 : Nat → Int32) (t_f14 : Nat → Int32) (t_f15 : Nat → Int32) (t_f16 : Nat → Int32) (t_f17 : Nat → Int32) (t_f18 : Nat → Int32) (u_rule : Int32) (u_walkers : Int32) (u_creeks : Int64) (u_widow : Int32) (u_faces : Int32) (u_turn : Int32) (bs : Nat → Nat) (s_field : Int64) (s_houses : Int32) (s_f0 : Nat → Int32) (s_f1 : Nat → Int32) (s_f2 : Nat → Int32) (s_f3 : Nat → Int64) (s_f4 : Nat → Int32) (s_f5 : Nat → Int32) (s_f6 : Nat → Int32) (s_f7 : Nat → Int64) (s_f8 : Nat → Int64) (s_f9 : Nat → Int64) (bn : Nat → Nat) (n_field : Int64) (n_houses : Int32) (n_f5 : Nat → Int32) (hl_t_span : 0 ≤ t_span.toInt) (hh_t_span : t_span.toInt ≤ 12) (hl_t_rule : 0 ≤ t_rule.toInt) (hh_t_rule : t_rule.toInt ≤ 3) (hl_t_odds : 0 ≤ t_odds.toInt) (hh_t_odds : t_odds.toInt ≤ 10) (hl_t_wide : 0 ≤ t_wide.toInt) (hh_t_wide : t_wide.toInt ≤ 8) (hl_t_high : 0 ≤ t_high.toInt) (hh_t_high : t_high.toInt ≤ 8) (hl_t_creeks : 0 ≤ t_creeks.toInt) (hh_t_creeks : t_creeks.toInt ≤ 12) (hl_t_houses : 0 ≤ t_houses.toInt) (hh_t_houses : t_houses.toInt ≤ 6) (hl_t_widows : 0 ≤ t_widows.toInt) (hh_t_widows : t_widows.toInt ≤ 7) (hl_t_acts : 0 ≤ t_acts.toInt) (hh_t_acts : t_acts.toInt ≤ 30) (ha_t_f14 : ai t_f14 7 (-2147483648) 40) (ha_t_f16 : ai t_f16 7 (-2147483648) 8) (hl_s_houses : 0 ≤ s_houses.toInt) (hh_s_houses : s_houses.toInt ≤ 6) (ha_s_f1 : ai s_f1 7 (-1) 40) (hl_n_houses : 0 ≤ n_houses.toInt) (hh_n_houses : n_houses.toInt ≤ 6) : CI l yX9_blame (wl_ yX9_blame cX9_blame 4 (some .int)) ({ frames := 4, cells := 0, slots := 0, locals := 105 } : Room) G (TY cI cJ cZ cB cQ) [.ref h0] [(h0, oX9 b), (b 1, oX0 bt t_lines t_span t_rule t_odds t_wide t_high t_creeks t_houses t_widows t_acts), (bt 10, .inl (cI, 12, .inl t_f10)), (bt 11, .inl (cI, 6, .inl t_f11)), (bt 12, .inl (cI, 7, .inl t_f12)), (bt 13, .inl (cI, 7, .inl t_f13)), (bt 14, .inl (cI, 7, .inl t_f14)), (bt 15, .inl (cI, 7, .inl t_f15)), (bt 16, .inl (cI, 7, .inl t_f16)), (bt 17, .inl (cI, 56, .inl t_f17)), (bt 18, .inl (cI, 30, .inl t_f18)), (b 3, oX7 z0 u_rule u_walkers u_creeks u_widow u_faces u_turn), (b 5, oX6 bs s_field s_houses), (bs 0, .inl (cI, 287, .inl s_f0)), (bs 1, .inl (cI, 7, .inl s_f1)), (bs 2, .inl (cI, 7, .inl s_f2)), (bs 3, .inl (cJ, 7, .inr (.inl s_f3))), (bs 4, .inl (cI, 7, .inl s_f4)), (bs 5, .inl (cI, 6, .inl s_f5)), (bs 6, .inl (cI, 78, .inl s_f6)), (bs 7, .inl (cJ, 13, .inr (.inl s_f7))), (bs 8, .inl (cJ, 13, .inr (.inl s_f8))), (bs 9, .inl (cJ, 13, .inr (.inl s_f9))), (b 4, oX6 bn n_field n_houses), (bn 5, .inl (cI, 6, .inl n_f5))] sz (fun (r : Int32) (u : Int32 × Int32 × Int64 × Int32 × Int32 × Int32 × Int64 × Int32 × (Nat → Int32) × (Nat → Int32) × (Nat → Int32) × (Nat → Int64) × (Nat → Int32) × (Nat → Int32) × (Nat → Int32) × (Nat → Int64) × (Nat → Int64) × (Nat → Int64)) => 0 ≤ u.2.2.2.2.2.2.2.1.toInt ∧ u.2.2.2.2.2.2.2.1.toInt ≤ 6 ∧ ai u.2.2.2.2.2.2.2.2.2.1 7 (-1) 40) (fun u : Int32 × Int32 × Int64 × Int32 × Int32 × Int32 × Int64 × Int32 × (Nat → Int32) × (Nat → Int32) × (Nat → Int32) × (Nat → Int64) × (Nat → Int32) × (Nat → Int32) × (Nat → Int32) × (Nat → Int64) × (Nat → Int64) × (Nat → Int64) => [(h0, oX9 b), (b 1, oX0 bt t_lines t_span t_rule t_odds t_wide t_high t_creeks t_houses t_widows t_acts), (bt 10, .inl (cI, 12, .inl t_f10)), (bt 11, .inl (cI, 6, .inl t_f11)), (bt 12, .inl (cI, 7, .inl t_f12)), (bt 13, .inl (cI, 7, .inl t_f13)), (bt 14, .inl (cI, 7, .inl t_f14)), (bt 15, .inl (cI, 7, .inl t_f15)), (bt 16, .inl (cI, 7, .inl t_f16)), (bt 17, .inl (cI, 56, .inl t_f17)), (bt 18, .inl (cI, 30, .inl t_f18)), (b 3, oX7 z0 u.1 u.2.1 u.2.2.1 u.2.2.2.1 u.2.2.2.2.1 u.2.2.2.2.2.1), (b 5, oX6 bs u.2.2.2.2.2.2.1 u.2.2.2.2.2.2.2.1), (bs 0, .inl (cI, 287, .inl u.2.2.2.2.2.2.2.2.1)), (bs 1, .inl (cI, 7, .inl u.2.2.2.2.2.2.2.2.2.1)), (bs 2, .inl (cI, 7, .inl u.2.2.2.2.2.2.2.2.2.2.1)), (bs 3, .inl (cJ, 7, .inr (.inl u.2.2.2.2.2.2.2.2.2.2.2.1))), (bs 4, .inl (cI, 7, .inl u.2.2.2.2.2.2.2.2.2.2.2.2.1)), (bs 5, .inl (cI, 6, .inl u.2.2.2.2.2.2.2.2.2.2.2.2.2.1)), (bs 6, .inl (cI, 78, .inl u.2.2.2.2.2.2.2.2.2.2.2.2.2.2.1)), (bs 7, .inl (cJ, 13, .inr (.inl u.2.2.2.2.2.2.2.2.2.2.2.2.2.2.2.1))), (bs 8, .inl (cJ, 13, .inr (.inl u.2.2.2.2.2.2.2.2.2.2.2.2.2.2.2.2.1))), (bs 9, .inl (cJ, 13, .inr (.inl u.2.2.2.2.2.2.2.2.2.2.2.2.2.2.2.2.2))), (b 4, oX6 bn n_field n_houses), (bn 5, .inl (cI, 6, .inl n_f5))]) 0 0 := by
  refine CI.go (cc := cX9_blame) (maxL := 4) (ret := (some .int)) (by decide) rfl (Nat.le_of_ble_eq_true rfl) ?_
  intro p e s m below meth c A ls Q hBd hret
  obtain ⟨hx, hb, hr, hml, hts, hown, hlk, hnm, hP, hK, hD, hA, hZ, hl⟩ := hBd
  have hown : s.vm.findClass RX9 = some m.cls := hown
  have hl : lv_has ls 4 [(0, .ref h0)] := hl
  have hS : va_S A s.heap s.heap [] := va_S.rf
  refine lv_aload_n hx hb dX9_blame_0 rfl (lv_at hl 0 rfl) ?_
  refine va_get (D := G) (ci := 9) (v := .ref (b 1)) (C := RX9) (T := TX9) (N := 11) hx hb hts iG_X9 hown hK hP 0 rfl rfl 1 (by decide) (hts _ w_352) (fun _ h9 => h9) rfl dX9_blame_1 ?_
  refine va_getN (D := G) (ci := 0) (v := .int t_lines) (C := RX0) (T := TX0) (N := 19) hx hb hts iG_X0 hown hK hP 1 rfl rfl 0 (by decide) (nz_use hZ nw_57 rfl) (fun _ h9 => h9) rfl dX9_blame_4 ?_
  refine lv_if_ne (tgt := 13) hx hb dX9_blame_7 (by decide) (fun c1 => ?_) (fun c1 => ?_)
  · have c1 := i_ne rfl ki_0 c1
    refine lv_aload_n hx hb dX9_blame_13 rfl (lv_at hl 0 rfl) ?_
    refine va_get (D := G) (ci := 9) (v := .ref (b 4)) (C := RX9) (T := TX9) (N := 11) hx hb hts iG_X9 hown hK hP 0 rfl rfl 4 (by decide) (hts _ w_355) (fun _ h9 => h9) rfl dX9_blame_14 ?_
    refine k_i (wc := [(b 4, oX6 bn n_field n_houses), (bn 5, .inl (cI, 6, .inl n_f5))]) (wr := [(h0, oX9 b), (b 1, oX0 bt t_lines t_span t_rule t_odds t_wide t_high t_creeks t_houses t_widows t_acts), (bt 10, .inl (cI, 12, .inl t_f10)), (bt 11, .inl (cI, 6, .inl t_f11)), (bt 12, .inl (cI, 7, .inl t_f12)), (bt 13, .inl (cI, 7, .inl t_f13)), (bt 14, .inl (cI, 7, .inl t_f14)), (bt 15, .inl (cI, 7, .inl t_f15)), (bt 16, .inl (cI, 7, .inl t_f16)), (bt 17, .inl (cI, 56, .inl t_f17)), (bt 18, .inl (cI, 30, .inl t_f18)), (b 3, oX7 z0 u_rule u_walkers u_creeks u_widow u_faces u_turn), (b 5, oX6 bs s_field s_houses), (bs 0, .inl (cI, 287, .inl s_f0)), (bs 1, .inl (cI, 7, .inl s_f1)), (bs 2, .inl (cI, 7, .inl s_f2)), (bs 3, .inl (cJ, 7, .inr (.inl s_f3))), (bs 4, .inl (cI, 7, .inl s_f4)), (bs 5, .inl (cI, 6, .inl s_f5)), (bs 6, .inl (cI, 78, .inl s_f6)), (bs 7, .inl (cJ, 13, .inr (.inl s_f7))), (bs 8, .inl (cJ, 13, .inr (.inl s_f8))), (bs 9, .inl (cJ, 13, .inr (.inl s_f9)))]) hP hD hS hA [23, 24] [0, 1, 2, 3, 4, 5, 6, 7, 8, 9, 10, 11, 12, 13, 14, 15, 16, 17, 18, 19, 20, 21, 22] rfl rfl rfl (by decide) (va_runVN (As := []) (rest := []) ⟨hx, hb, hml, hown, hts⟩ (f_X6_allShifts l G cI cJ cZ cB cQ _ (b 4) bn n_field n_houses n_f5 hl_n_houses hh_n_houses) ⟨va_cnB (host := "WidowRoads") 0 hts (gW w_934) rfl rfl rfl (nz_nw hZ nw_931 rfl) (hts _ w_6) hd_X6_allShifts ⟨Nat.le_of_ble_eq_true rfl, Nat.le_of_ble_eq_true rfl⟩, (hts _ w_933), (hts _ wp_57)⟩ (mV hK hZ hP hD [23, 24] rfl rfl [] 23 6 rfl rfl) rfl rfl hl.1 rfl (lv_room (Nat.le_of_ble_eq_true rfl)) dX9_blame_17 ⟨Nat.le_of_ble_eq_true rfl, Nat.le_of_ble_eq_true rfl⟩) (fun r2 u3 H locs hw4 hP hD hS => ?_)
    try dsimp only at hw4
    have hP : va_P G vwCl [(h0, oX9 b), (b 1, oX0 bt t_lines t_span t_rule t_odds t_wide t_high t_creeks t_houses t_widows t_acts), (bt 10, .inl (cI, 12, .inl t_f10)), (bt 11, .inl (cI, 6, .inl t_f11)), (bt 12, .inl (cI, 7, .inl t_f12)), (bt 13, .inl (cI, 7, .inl t_f13)), (bt 14, .inl (cI, 7, .inl t_f14)), (bt 15, .inl (cI, 7, .inl t_f15)), (bt 16, .inl (cI, 7, .inl t_f16)), (bt 17, .inl (cI, 56, .inl t_f17)), (bt 18, .inl (cI, 30, .inl t_f18)), (b 3, oX7 z0 u_rule u_walkers u_creeks u_widow u_faces u_turn), (b 5, oX6 bs s_field s_houses), (bs 0, .inl (cI, 287, .inl s_f0)), (bs 1, .inl (cI, 7, .inl s_f1)), (bs 2, .inl (cI, 7, .inl s_f2)), (bs 3, .inl (cJ, 7, .inr (.inl s_f3))), (bs 4, .inl (cI, 7, .inl s_f4)), (bs 5, .inl (cI, 6, .inl s_f5)), (bs 6, .inl (cI, 78, .inl s_f6)), (bs 7, .inl (cJ, 13, .inr (.inl s_f7))), (bs 8, .inl (cJ, 13, .inr (.inl s_f8))), (bs 9, .inl (cJ, 13, .inr (.inl s_f9))), (b 4, oX6 bn n_field n_houses), (bn 5, .inl (cI, 6, .inl n_f5))] H := hP
    have hD : va_D A [(h0, oX9 b), (b 1, oX0 bt t_lines t_span t_rule t_odds t_wide t_high t_creeks t_houses t_widows t_acts), (bt 10, .inl (cI, 12, .inl t_f10)), (bt 11, .inl (cI, 6, .inl t_f11)), (bt 12, .inl (cI, 7, .inl t_f12)), (bt 13, .inl (cI, 7, .inl t_f13)), (bt 14, .inl (cI, 7, .inl t_f14)), (bt 15, .inl (cI, 7, .inl t_f15)), (bt 16, .inl (cI, 7, .inl t_f16)), (bt 17, .inl (cI, 56, .inl t_f17)), (bt 18, .inl (cI, 30, .inl t_f18)), (b 3, oX7 z0 u_rule u_walkers u_creeks u_widow u_faces u_turn), (b 5, oX6 bs s_field s_houses), (bs 0, .inl (cI, 287, .inl s_f0)), (bs 1, .inl (cI, 7, .inl s_f1)), (bs 2, .inl (cI, 7, .inl s_f2)), (bs 3, .inl (cJ, 7, .inr (.inl s_f3))), (bs 4, .inl (cI, 7, .inl s_f4)), (bs 5, .inl (cI, 6, .inl s_f5)), (bs 6, .inl (cI, 78, .inl s_f6)), (bs 7, .inl (cJ, 13, .inr (.inl s_f7))), (bs 8, .inl (cJ, 13, .inr (.inl s_f8))), (bs 9, .inl (cJ, 13, .inr (.inl s_f9))), (b 4, oX6 bn n_field n_houses), (bn 5, .inl (cI, 6, .inl n_f5))] := hD
    refine lv_istore_n (lv' := [(1, .int r2), (0, .ref h0)]) hx hb dX9_blame_20 rfl hl (by decide) rfl (fun ls hl => ?_)
    refine lv_iconst (v := (-1)) hx hb dX9_blame_21 (by decide) ?_
    refine lv_istore_n (lv' := [(2, .int (-1)), (1, .int r2), (0, .ref h0)]) hx hb dX9_blame_22 rfl hl (by decide) rfl (fun ls hl => ?_)
    refine lv_iconst (v := 0) hx hb dX9_blame_23 (by decide) ?_
    refine lv_istore_n (lv' := [(3, .int 0), (2, .int (-1)), (1, .int r2), (0, .ref h0)]) hx hb dX9_blame_24 rfl hl (by decide) rfl (fun ls hl => ?_)
    have lp5 : ∀ (n6 : Nat) (x7 : Int32) (x8 : Int32) (x9 : Int32) (z10 : Int32) (z11 : Int32) (y12 : Int64) (z13 : Int32) (z14 : Int32) (z15 : Int32) (y16 : Int64) (z17 : Int32) (g18 : Nat → Int32) (g19 : Nat → Int32) (g20 : Nat → Int32) (g21 : Nat → Int64) (g22 : Nat → Int32) (g23 : Nat → Int32) (g24 : Nat → Int32) (g25 : Nat → Int64) (g26 : Nat → Int64) (g27 : Nat → Int64), (-1) ≤ x8.toInt → 0 ≤ x9.toInt → x9.toInt ≤ 7 → 0 ≤ z17.toInt → z17.toInt ≤ 6 → ai g19 7 (-1) 40 → 7 - x9.toInt < (n6 : Int) → ∀ (H : Heap) (locs : List Loc), va_P G vwCl [(h0, oX9 b), (b 1, oX0 bt t_lines t_span t_rule t_odds t_wide t_high t_creeks t_houses t_widows t_acts), (bt 10, .inl (cI, 12, .inl t_f10)), (bt 11, .inl (cI, 6, .inl t_f11)), (bt 12, .inl (cI, 7, .inl t_f12)), (bt 13, .inl (cI, 7, .inl t_f13)), (bt 14, .inl (cI, 7, .inl t_f14)), (bt 15, .inl (cI, 7, .inl t_f15)), (bt 16, .inl (cI, 7, .inl t_f16)), (bt 17, .inl (cI, 56, .inl t_f17)), (bt 18, .inl (cI, 30, .inl t_f18)), (b 3, oX7 z0 z10 z11 y12 z13 z14 z15), (b 5, oX6 bs y16 z17), (bs 0, .inl (cI, 287, .inl g18)), (bs 1, .inl (cI, 7, .inl g19)), (bs 2, .inl (cI, 7, .inl g20)), (bs 3, .inl (cJ, 7, .inr (.inl g21))), (bs 4, .inl (cI, 7, .inl g22)), (bs 5, .inl (cI, 6, .inl g23)), (bs 6, .inl (cI, 78, .inl g24)), (bs 7, .inl (cJ, 13, .inr (.inl g25))), (bs 8, .inl (cJ, 13, .inr (.inl g26))), (bs 9, .inl (cJ, 13, .inr (.inl g27))), (b 4, oX6 bn n_field n_houses), (bn 5, .inl (cI, 6, .inl n_f5))] H → va_D A [(h0, oX9 b), (b 1, oX0 bt t_lines t_span t_rule t_odds t_wide t_high t_creeks t_houses t_widows t_acts), (bt 10, .inl (cI, 12, .inl t_f10)), (bt 11, .inl (cI, 6, .inl t_f11)), (bt 12, .inl (cI, 7, .inl t_f12)), (bt 13, .inl (cI, 7, .inl t_f13)), (bt 14, .inl (cI, 7, .inl t_f14)), (bt 15, .inl (cI, 7, .inl t_f15)), (bt 16, .inl (cI, 7, .inl t_f16)), (bt 17, .inl (cI, 56, .inl t_f17)), (bt 18, .inl (cI, 30, .inl t_f18)), (b 3, oX7 z0 z10 z11 y12 z13 z14 z15), (b 5, oX6 bs y16 z17), (bs 0, .inl (cI, 287, .inl g18)), (bs 1, .inl (cI, 7, .inl g19)), (bs 2, .inl (cI, 7, .inl g20)), (bs 3, .inl (cJ, 7, .inr (.inl g21))), (bs 4, .inl (cI, 7, .inl g22)), (bs 5, .inl (cI, 6, .inl g23)), (bs 6, .inl (cI, 78, .inl g24)), (bs 7, .inl (cJ, 13, .inr (.inl g25))), (bs 8, .inl (cJ, 13, .inr (.inl g26))), (bs 9, .inl (cJ, 13, .inr (.inl g27))), (b 4, oX6 bn n_field n_houses), (bn 5, .inl (cI, 6, .inl n_f5))] → va_S A s.heap H locs → ∀ (ls : Array Slot), lv_has ls 4 [(3, .int x9), (2, .int x8), (1, .int x7), (0, .ref h0)] → W p l e ({ frames := 4, cells := 0, slots := 0, locals := 105 } : Room) s m ([.ref h0] : List Value).toArray below meth c H locs 0 0 Q (F0 m 25 ls []) := by
      intro n6
      induction n6 with
      | zero =>
        intro x7 x8 x9 z10 z11 y12 z13 z14 z15 y16 z17 g18 g19 g20 g21 g22 g23 g24 g25 g26 g27 k28 k29 k30 k31 k32 k33 mm35
        exact absurd mm35 (by have q9 := fb_rng x9; omega)
      | succ n6 ih34 =>
        intro x7 x8 x9 z10 z11 y12 z13 z14 z15 y16 z17 g18 g19 g20 g21 g22 g23 g24 g25 g26 g27 k28 k29 k30 k31 k32 k33 mm35 H locs hP hD hS ls hl
        refine lv_iload_n hx hb dX9_blame_25 rfl (lv_at hl 0 rfl) ?_
        refine lv_aload_n hx hb dX9_blame_26 rfl (lv_at hl 3 rfl) ?_
        refine va_get (D := G) (ci := 9) (v := .ref (b 1)) (C := RX9) (T := TX9) (N := 11) hx hb hts iG_X9 hown hK hP 0 rfl rfl 1 (by decide) (hts _ w_352) (fun _ h9 => h9) rfl dX9_blame_27 ?_
        refine va_getN (D := G) (ci := 0) (v := .int t_widows) (C := RX0) (T := TX0) (N := 19) hx hb hts iG_X0 hown hK hP 1 rfl rfl 8 (by decide) (nz_use hZ nw_88 rfl) (fun _ h9 => h9) rfl dX9_blame_30 ?_
        refine lv_icmp_ge (tgt := 106) hx hb dX9_blame_33 (by decide) (fun c36 => ?_) (fun c36 => ?_)
        · have c36 := i_le rfl rfl c36
          refine lv_iload_n hx hb dX9_blame_106 rfl (lv_at hl 1 rfl) ?_
          exact hret _ _ _ _ x8 (z10, z11, y12, z13, z14, z15, y16, z17, g18, g19, g20, g21, g22, g23, g24, g25, g26, g27) hP hD hS dX9_blame_107 (show 0 ≤ z17.toInt ∧ z17.toInt ≤ 6 ∧ ai g19 7 (-1) 40 from ⟨k31, k32, k33⟩)
        · have c36 := i_nle rfl rfl c36
          refine lv_aload_n hx hb dX9_blame_36 rfl (lv_at hl 3 rfl) ?_
          refine va_get (D := G) (ci := 9) (v := .ref (b 3)) (C := RX9) (T := TX9) (N := 11) hx hb hts iG_X9 hown hK hP 0 rfl rfl 3 (by decide) (hts _ w_354) (fun _ h9 => h9) rfl dX9_blame_37 ?_
          refine lv_aload_n hx hb dX9_blame_40 rfl (lv_at hl 3 rfl) ?_
          refine va_get (D := G) (ci := 9) (v := .ref (b 1)) (C := RX9) (T := TX9) (N := 11) hx hb hts iG_X9 hown hK hP 0 rfl rfl 1 (by decide) (hts _ w_352) (fun _ h9 => h9) rfl dX9_blame_41 ?_
          refine k_v (wc := [(b 3, oX7 z0 z10 z11 y12 z13 z14 z15), (b 1, oX0 bt t_lines t_span t_rule t_odds t_wide t_high t_creeks t_houses t_widows t_acts), (bt 10, .inl (cI, 12, .inl t_f10)), (bt 18, .inl (cI, 30, .inl t_f18))]) (wr := [(h0, oX9 b), (bt 11, .inl (cI, 6, .inl t_f11)), (bt 12, .inl (cI, 7, .inl t_f12)), (bt 13, .inl (cI, 7, .inl t_f13)), (bt 14, .inl (cI, 7, .inl t_f14)), (bt 15, .inl (cI, 7, .inl t_f15)), (bt 16, .inl (cI, 7, .inl t_f16)), (bt 17, .inl (cI, 56, .inl t_f17)), (b 5, oX6 bs y16 z17), (bs 0, .inl (cI, 287, .inl g18)), (bs 1, .inl (cI, 7, .inl g19)), (bs 2, .inl (cI, 7, .inl g20)), (bs 3, .inl (cJ, 7, .inr (.inl g21))), (bs 4, .inl (cI, 7, .inl g22)), (bs 5, .inl (cI, 6, .inl g23)), (bs 6, .inl (cI, 78, .inl g24)), (bs 7, .inl (cJ, 13, .inr (.inl g25))), (bs 8, .inl (cJ, 13, .inr (.inl g26))), (bs 9, .inl (cJ, 13, .inr (.inl g27))), (b 4, oX6 bn n_field n_houses), (bn 5, .inl (cI, 6, .inl n_f5))]) hP hD hS hA [11, 1, 2, 10] [0, 3, 4, 5, 6, 7, 8, 9, 12, 13, 14, 15, 16, 17, 18, 19, 20, 21, 22, 23, 24] rfl rfl rfl (by decide) (va_runVN (As := [.ref (b 1)]) (rest := []) ⟨hx, hb, hml, hown, hts⟩ (f_X7_asNow l G cI cJ cZ cB cQ _ (b 3) (b 1) z10 z11 y12 z13 z14 z15 bt t_lines t_span t_rule t_odds t_wide t_high t_creeks t_houses t_widows t_acts t_f10 t_f18 hl_t_span hh_t_span hl_t_rule hh_t_rule hl_t_odds hh_t_odds hl_t_wide hh_t_wide hl_t_high hh_t_high hl_t_creeks hh_t_creeks hl_t_houses hh_t_houses (by omega) hh_t_widows hl_t_acts hh_t_acts) ⟨va_cnB (host := "WidowRoads") 1 hts (gW w_576) rfl rfl rfl (nz_nw hZ nw_573 rfl) (hts _ w_5) hd_X7_asNow ⟨Nat.le_of_ble_eq_true rfl, Nat.le_of_ble_eq_true rfl⟩, (hts _ w_575), (hts _ wp_22)⟩ (mV hK hZ hP hD [11, 1, 2, 10] rfl rfl [.ref (b 1)] 11 7 rfl rfl) rfl rfl hl.1 rfl (lv_room (Nat.le_of_ble_eq_true rfl)) dX9_blame_44 ⟨Nat.le_of_ble_eq_true rfl, Nat.le_of_ble_eq_true rfl⟩) (fun u38 H locs hw39 hP hD hS => ?_)
          obtain ⟨o_ruleo40, o_walkerso41, o_creekso42, o_widowo43, o_faceso44, o_turno45⟩ := u38
          try dsimp only at hw39
          have hP : va_P G vwCl [(h0, oX9 b), (bt 11, .inl (cI, 6, .inl t_f11)), (bt 12, .inl (cI, 7, .inl t_f12)), (bt 13, .inl (cI, 7, .inl t_f13)), (bt 14, .inl (cI, 7, .inl t_f14)), (bt 15, .inl (cI, 7, .inl t_f15)), (bt 16, .inl (cI, 7, .inl t_f16)), (bt 17, .inl (cI, 56, .inl t_f17)), (b 5, oX6 bs y16 z17), (bs 0, .inl (cI, 287, .inl g18)), (bs 1, .inl (cI, 7, .inl g19)), (bs 2, .inl (cI, 7, .inl g20)), (bs 3, .inl (cJ, 7, .inr (.inl g21))), (bs 4, .inl (cI, 7, .inl g22)), (bs 5, .inl (cI, 6, .inl g23)), (bs 6, .inl (cI, 78, .inl g24)), (bs 7, .inl (cJ, 13, .inr (.inl g25))), (bs 8, .inl (cJ, 13, .inr (.inl g26))), (bs 9, .inl (cJ, 13, .inr (.inl g27))), (b 4, oX6 bn n_field n_houses), (bn 5, .inl (cI, 6, .inl n_f5)), (b 3, oX7 z0 o_ruleo40 o_walkerso41 o_creekso42 o_widowo43 o_faceso44 o_turno45), (b 1, oX0 bt t_lines t_span t_rule t_odds t_wide t_high t_creeks t_houses t_widows t_acts), (bt 10, .inl (cI, 12, .inl t_f10)), (bt 18, .inl (cI, 30, .inl t_f18))] H := hP
          have hD : va_D A [(h0, oX9 b), (bt 11, .inl (cI, 6, .inl t_f11)), (bt 12, .inl (cI, 7, .inl t_f12)), (bt 13, .inl (cI, 7, .inl t_f13)), (bt 14, .inl (cI, 7, .inl t_f14)), (bt 15, .inl (cI, 7, .inl t_f15)), (bt 16, .inl (cI, 7, .inl t_f16)), (bt 17, .inl (cI, 56, .inl t_f17)), (b 5, oX6 bs y16 z17), (bs 0, .inl (cI, 287, .inl g18)), (bs 1, .inl (cI, 7, .inl g19)), (bs 2, .inl (cI, 7, .inl g20)), (bs 3, .inl (cJ, 7, .inr (.inl g21))), (bs 4, .inl (cI, 7, .inl g22)), (bs 5, .inl (cI, 6, .inl g23)), (bs 6, .inl (cI, 78, .inl g24)), (bs 7, .inl (cJ, 13, .inr (.inl g25))), (bs 8, .inl (cJ, 13, .inr (.inl g26))), (bs 9, .inl (cJ, 13, .inr (.inl g27))), (b 4, oX6 bn n_field n_houses), (bn 5, .inl (cI, 6, .inl n_f5)), (b 3, oX7 z0 o_ruleo40 o_walkerso41 o_creekso42 o_widowo43 o_faceso44 o_turno45), (b 1, oX0 bt t_lines t_span t_rule t_odds t_wide t_high t_creeks t_houses t_widows t_acts), (bt 10, .inl (cI, 12, .inl t_f10)), (bt 18, .inl (cI, 30, .inl t_f18))] := hD
          refine lv_aload_n hx hb dX9_blame_47 rfl (lv_at hl 3 rfl) ?_
          refine va_get (D := G) (ci := 9) (v := .ref (b 3)) (C := RX9) (T := TX9) (N := 11) hx hb hts iG_X9 hown hK hP 0 rfl rfl 3 (by decide) (hts _ w_354) (fun _ h9 => h9) rfl dX9_blame_48 ?_
          refine lv_dup hx hb dX9_blame_51 rfl ?_
          refine va_getN (D := G) (ci := 7) (v := .int o_walkerso41) (C := RX7) (T := TX7) (N := 6) hx hb hts iG_X7 hown hK hP 21 rfl rfl 1 (by decide) (nz_use hZ nw_204 rfl) (fun _ h9 => h9) rfl dX9_blame_52 ?_
          refine lv_iconst (v := 1) hx hb dX9_blame_55 (by decide) ?_
          refine lv_iload_n hx hb dX9_blame_56 rfl (lv_at hl 0 rfl) ?_
          refine lv_ishl hx hb dX9_blame_57 ?_
          refine lv_topi (fun v46 ev46 => ?_)
          obtain ⟨sa47, sb48⟩ : 1 ≤ v46.toInt ∧ v46.toInt ≤ 64 := shl1 6 rfl (by omega) (by omega) (by decide) ev46
          refine lv_iconst (v := (-1)) hx hb dX9_blame_58 (by decide) ?_
          refine lv_ixor hx hb dX9_blame_59 ?_
          refine lv_topi (fun v49 ev49 => ?_)
          refine lv_iand hx hb dX9_blame_60 ?_
          refine lv_topi (fun v50 ev50 => ?_)
          refine va_putN (D := G) (ci := 7) (v := .int v50) (ty := .int) (C := RX7) (T := TX7) (N := 6) hx hb hts iG_X7 tyX7 tyX7_ok nmX7 hown hK hP hD hS 21 rfl rfl 1 (by decide) (nz_use hZ nw_204 rfl) (fun _ h9 => h9) rfl (by decide +kernel) rfl rfl (Nat.le_of_ble_eq_true rfl) dX9_blame_61 (fun H locs hP hD hS => ?_)
          have hP : va_P G vwCl [(h0, oX9 b), (bt 11, .inl (cI, 6, .inl t_f11)), (bt 12, .inl (cI, 7, .inl t_f12)), (bt 13, .inl (cI, 7, .inl t_f13)), (bt 14, .inl (cI, 7, .inl t_f14)), (bt 15, .inl (cI, 7, .inl t_f15)), (bt 16, .inl (cI, 7, .inl t_f16)), (bt 17, .inl (cI, 56, .inl t_f17)), (b 5, oX6 bs y16 z17), (bs 0, .inl (cI, 287, .inl g18)), (bs 1, .inl (cI, 7, .inl g19)), (bs 2, .inl (cI, 7, .inl g20)), (bs 3, .inl (cJ, 7, .inr (.inl g21))), (bs 4, .inl (cI, 7, .inl g22)), (bs 5, .inl (cI, 6, .inl g23)), (bs 6, .inl (cI, 78, .inl g24)), (bs 7, .inl (cJ, 13, .inr (.inl g25))), (bs 8, .inl (cJ, 13, .inr (.inl g26))), (bs 9, .inl (cJ, 13, .inr (.inl g27))), (b 4, oX6 bn n_field n_houses), (bn 5, .inl (cI, 6, .inl n_f5)), (b 3, oX7 z0 o_ruleo40 v50 o_creekso42 o_widowo43 o_faceso44 o_turno45), (b 1, oX0 bt t_lines t_span t_rule t_odds t_wide t_high t_creeks t_houses t_widows t_acts), (bt 10, .inl (cI, 12, .inl t_f10)), (bt 18, .inl (cI, 30, .inl t_f18))] H := hP
          have hD : va_D A [(h0, oX9 b), (bt 11, .inl (cI, 6, .inl t_f11)), (bt 12, .inl (cI, 7, .inl t_f12)), (bt 13, .inl (cI, 7, .inl t_f13)), (bt 14, .inl (cI, 7, .inl t_f14)), (bt 15, .inl (cI, 7, .inl t_f15)), (bt 16, .inl (cI, 7, .inl t_f16)), (bt 17, .inl (cI, 56, .inl t_f17)), (b 5, oX6 bs y16 z17), (bs 0, .inl (cI, 287, .inl g18)), (bs 1, .inl (cI, 7, .inl g19)), (bs 2, .inl (cI, 7, .inl g20)), (bs 3, .inl (cJ, 7, .inr (.inl g21))), (bs 4, .inl (cI, 7, .inl g22)), (bs 5, .inl (cI, 6, .inl g23)), (bs 6, .inl (cI, 78, .inl g24)), (bs 7, .inl (cJ, 13, .inr (.inl g25))), (bs 8, .inl (cJ, 13, .inr (.inl g26))), (bs 9, .inl (cJ, 13, .inr (.inl g27))), (b 4, oX6 bn n_field n_houses), (bn 5, .inl (cI, 6, .inl n_f5)), (b 3, oX7 z0 o_ruleo40 v50 o_creekso42 o_widowo43 o_faceso44 o_turno45), (b 1, oX0 bt t_lines t_span t_rule t_odds t_wide t_high t_creeks t_houses t_widows t_acts), (bt 10, .inl (cI, 12, .inl t_f10)), (bt 18, .inl (cI, 30, .inl t_f18))] := hD
          refine lv_aload_n hx hb dX9_blame_64 rfl (lv_at hl 3 rfl) ?_
          refine va_get (D := G) (ci := 9) (v := .ref (b 5)) (C := RX9) (T := TX9) (N := 11) hx hb hts iG_X9 hown hK hP 0 rfl rfl 5 (by decide) (hts _ w_356) (fun _ h9 => h9) rfl dX9_blame_65 ?_
          refine lv_aload_n hx hb dX9_blame_68 rfl (lv_at hl 3 rfl) ?_
          refine va_get (D := G) (ci := 9) (v := .ref (b 1)) (C := RX9) (T := TX9) (N := 11) hx hb hts iG_X9 hown hK hP 0 rfl rfl 1 (by decide) (hts _ w_352) (fun _ h9 => h9) rfl dX9_blame_69 ?_
          refine lv_aload_n hx hb dX9_blame_72 rfl (lv_at hl 3 rfl) ?_
          refine va_get (D := G) (ci := 9) (v := .ref (b 3)) (C := RX9) (T := TX9) (N := 11) hx hb hts iG_X9 hown hK hP 0 rfl rfl 3 (by decide) (hts _ w_354) (fun _ h9 => h9) rfl dX9_blame_73 ?_
          refine k_v (wc := [(b 5, oX6 bs y16 z17), (bs 0, .inl (cI, 287, .inl g18)), (bs 1, .inl (cI, 7, .inl g19)), (bs 2, .inl (cI, 7, .inl g20)), (bs 3, .inl (cJ, 7, .inr (.inl g21))), (bs 4, .inl (cI, 7, .inl g22)), (bs 5, .inl (cI, 6, .inl g23)), (bs 6, .inl (cI, 78, .inl g24)), (bs 7, .inl (cJ, 13, .inr (.inl g25))), (bs 8, .inl (cJ, 13, .inr (.inl g26))), (bs 9, .inl (cJ, 13, .inr (.inl g27))), (b 1, oX0 bt t_lines t_span t_rule t_odds t_wide t_high t_creeks t_houses t_widows t_acts), (bt 11, .inl (cI, 6, .inl t_f11)), (bt 12, .inl (cI, 7, .inl t_f12)), (bt 13, .inl (cI, 7, .inl t_f13)), (bt 14, .inl (cI, 7, .inl t_f14)), (bt 15, .inl (cI, 7, .inl t_f15)), (bt 16, .inl (cI, 7, .inl t_f16)), (bt 17, .inl (cI, 56, .inl t_f17)), (b 3, oX7 z0 o_ruleo40 v50 o_creekso42 o_widowo43 o_faceso44 o_turno45)]) (wr := [(h0, oX9 b), (b 4, oX6 bn n_field n_houses), (bn 5, .inl (cI, 6, .inl n_f5)), (bt 10, .inl (cI, 12, .inl t_f10)), (bt 18, .inl (cI, 30, .inl t_f18))]) hP hD hS hA [8, 9, 10, 11, 12, 13, 14, 15, 16, 17, 18, 22, 1, 2, 3, 4, 5, 6, 7, 21] [0, 19, 20, 23, 24] rfl rfl rfl (by decide) (va_runVN (As := [.ref (b 1), .ref (b 3)]) (rest := []) ⟨hx, hb, hml, hown, hts⟩ (f_X6_tell l G cI cJ cZ cB cQ _ (b 5) (b 1) (b 3) bs y16 z17 g18 g19 g20 g21 g22 g23 g24 g25 g26 g27 bt t_lines t_span t_rule t_odds t_wide t_high t_creeks t_houses t_widows t_acts t_f11 t_f12 t_f13 t_f14 t_f15 t_f16 t_f17 o_ruleo40 v50 o_creekso42 o_widowo43 o_faceso44 o_turno45 k31 k32 k33 hl_t_span hh_t_span hl_t_rule hh_t_rule hl_t_odds hh_t_odds hl_t_wide hh_t_wide hl_t_high hh_t_high hl_t_creeks hh_t_creeks hl_t_houses hh_t_houses (by omega) hh_t_widows hl_t_acts hh_t_acts ha_t_f14 ha_t_f16) ⟨va_cnB (host := "WidowRoads") 2 hts (gW w_585) rfl rfl rfl (nz_nw hZ nw_582 rfl) (hts _ w_6) hd_X6_tell ⟨Nat.le_of_ble_eq_true rfl, Nat.le_of_ble_eq_true rfl⟩, (hts _ w_584), (hts _ wp_24)⟩ (mV hK hZ hP hD [8, 9, 10, 11, 12, 13, 14, 15, 16, 17, 18, 22, 1, 2, 3, 4, 5, 6, 7, 21] rfl rfl [.ref (b 1), .ref (b 3)] 8 6 rfl rfl) rfl rfl hl.1 rfl (lv_room (Nat.le_of_ble_eq_true rfl)) dX9_blame_76 ⟨Nat.le_of_ble_eq_true rfl, Nat.le_of_ble_eq_true rfl⟩) (fun u52 H locs hw53 hP hD hS => ?_)
          obtain ⟨o_fieldo54, o_houseso55, o_f0o56, o_f1o57, o_f2o58, o_f3o59, o_f4o60, o_f5o61, o_f6o62, o_f7o63, o_f8o64, o_f9o65⟩ := u52
          try dsimp only at hw53
          have hP : va_P G vwCl [(h0, oX9 b), (b 4, oX6 bn n_field n_houses), (bn 5, .inl (cI, 6, .inl n_f5)), (bt 10, .inl (cI, 12, .inl t_f10)), (bt 18, .inl (cI, 30, .inl t_f18)), (b 5, oX6 bs o_fieldo54 o_houseso55), (bs 0, .inl (cI, 287, .inl o_f0o56)), (bs 1, .inl (cI, 7, .inl o_f1o57)), (bs 2, .inl (cI, 7, .inl o_f2o58)), (bs 3, .inl (cJ, 7, .inr (.inl o_f3o59))), (bs 4, .inl (cI, 7, .inl o_f4o60)), (bs 5, .inl (cI, 6, .inl o_f5o61)), (bs 6, .inl (cI, 78, .inl o_f6o62)), (bs 7, .inl (cJ, 13, .inr (.inl o_f7o63))), (bs 8, .inl (cJ, 13, .inr (.inl o_f8o64))), (bs 9, .inl (cJ, 13, .inr (.inl o_f9o65))), (b 1, oX0 bt t_lines t_span t_rule t_odds t_wide t_high t_creeks t_houses t_widows t_acts), (bt 11, .inl (cI, 6, .inl t_f11)), (bt 12, .inl (cI, 7, .inl t_f12)), (bt 13, .inl (cI, 7, .inl t_f13)), (bt 14, .inl (cI, 7, .inl t_f14)), (bt 15, .inl (cI, 7, .inl t_f15)), (bt 16, .inl (cI, 7, .inl t_f16)), (bt 17, .inl (cI, 56, .inl t_f17)), (b 3, oX7 z0 o_ruleo40 v50 o_creekso42 o_widowo43 o_faceso44 o_turno45)] H := hP
          have hD : va_D A [(h0, oX9 b), (b 4, oX6 bn n_field n_houses), (bn 5, .inl (cI, 6, .inl n_f5)), (bt 10, .inl (cI, 12, .inl t_f10)), (bt 18, .inl (cI, 30, .inl t_f18)), (b 5, oX6 bs o_fieldo54 o_houseso55), (bs 0, .inl (cI, 287, .inl o_f0o56)), (bs 1, .inl (cI, 7, .inl o_f1o57)), (bs 2, .inl (cI, 7, .inl o_f2o58)), (bs 3, .inl (cJ, 7, .inr (.inl o_f3o59))), (bs 4, .inl (cI, 7, .inl o_f4o60)), (bs 5, .inl (cI, 6, .inl o_f5o61)), (bs 6, .inl (cI, 78, .inl o_f6o62)), (bs 7, .inl (cJ, 13, .inr (.inl o_f7o63))), (bs 8, .inl (cJ, 13, .inr (.inl o_f8o64))), (bs 9, .inl (cJ, 13, .inr (.inl o_f9o65))), (b 1, oX0 bt t_lines t_span t_rule t_odds t_wide t_high t_creeks t_houses t_widows t_acts), (bt 11, .inl (cI, 6, .inl t_f11)), (bt 12, .inl (cI, 7, .inl t_f12)), (bt 13, .inl (cI, 7, .inl t_f13)), (bt 14, .inl (cI, 7, .inl t_f14)), (bt 15, .inl (cI, 7, .inl t_f15)), (bt 16, .inl (cI, 7, .inl t_f16)), (bt 17, .inl (cI, 56, .inl t_f17)), (b 3, oX7 z0 o_ruleo40 v50 o_creekso42 o_widowo43 o_faceso44 o_turno45)] := hD
          obtain ⟨w66, w67, w68⟩ : 0 ≤ o_houseso55.toInt ∧ o_houseso55.toInt ≤ 6 ∧ ai o_f1o57 7 (-1) 40 := hw53
          refine lv_aload_n hx hb dX9_blame_79 rfl (lv_at hl 3 rfl) ?_
          refine va_get (D := G) (ci := 9) (v := .ref (b 5)) (C := RX9) (T := TX9) (N := 11) hx hb hts iG_X9 hown hK hP 0 rfl rfl 5 (by decide) (hts _ w_356) (fun _ h9 => h9) rfl dX9_blame_80 ?_
          refine k_i (wc := [(b 5, oX6 bs o_fieldo54 o_houseso55), (bs 5, .inl (cI, 6, .inl o_f5o61))]) (wr := [(h0, oX9 b), (b 4, oX6 bn n_field n_houses), (bn 5, .inl (cI, 6, .inl n_f5)), (bt 10, .inl (cI, 12, .inl t_f10)), (bt 18, .inl (cI, 30, .inl t_f18)), (bs 0, .inl (cI, 287, .inl o_f0o56)), (bs 1, .inl (cI, 7, .inl o_f1o57)), (bs 2, .inl (cI, 7, .inl o_f2o58)), (bs 3, .inl (cJ, 7, .inr (.inl o_f3o59))), (bs 4, .inl (cI, 7, .inl o_f4o60)), (bs 6, .inl (cI, 78, .inl o_f6o62)), (bs 7, .inl (cJ, 13, .inr (.inl o_f7o63))), (bs 8, .inl (cJ, 13, .inr (.inl o_f8o64))), (bs 9, .inl (cJ, 13, .inr (.inl o_f9o65))), (b 1, oX0 bt t_lines t_span t_rule t_odds t_wide t_high t_creeks t_houses t_widows t_acts), (bt 11, .inl (cI, 6, .inl t_f11)), (bt 12, .inl (cI, 7, .inl t_f12)), (bt 13, .inl (cI, 7, .inl t_f13)), (bt 14, .inl (cI, 7, .inl t_f14)), (bt 15, .inl (cI, 7, .inl t_f15)), (bt 16, .inl (cI, 7, .inl t_f16)), (bt 17, .inl (cI, 56, .inl t_f17)), (b 3, oX7 z0 o_ruleo40 v50 o_creekso42 o_widowo43 o_faceso44 o_turno45)]) hP hD hS hA [5, 11] [0, 1, 2, 3, 4, 6, 7, 8, 9, 10, 12, 13, 14, 15, 16, 17, 18, 19, 20, 21, 22, 23, 24] rfl rfl rfl (by decide) (va_runVN (As := []) (rest := []) ⟨hx, hb, hml, hown, hts⟩ (f_X6_allShifts l G cI cJ cZ cB cQ _ (b 5) bs o_fieldo54 o_houseso55 o_f5o61 w66 w67) ⟨va_cnB (host := "WidowRoads") 0 hts (gW w_934) rfl rfl rfl (nz_nw hZ nw_931 rfl) (hts _ w_6) hd_X6_allShifts ⟨Nat.le_of_ble_eq_true rfl, Nat.le_of_ble_eq_true rfl⟩, (hts _ w_933), (hts _ wp_57)⟩ (mV hK hZ hP hD [5, 11] rfl rfl [] 5 6 rfl rfl) rfl rfl hl.1 rfl (lv_room (Nat.le_of_ble_eq_true rfl)) dX9_blame_83 ⟨Nat.le_of_ble_eq_true rfl, Nat.le_of_ble_eq_true rfl⟩) (fun r69 u70 H locs hw71 hP hD hS => ?_)
          try dsimp only at hw71
          have hP : va_P G vwCl [(h0, oX9 b), (b 4, oX6 bn n_field n_houses), (bn 5, .inl (cI, 6, .inl n_f5)), (bt 10, .inl (cI, 12, .inl t_f10)), (bt 18, .inl (cI, 30, .inl t_f18)), (bs 0, .inl (cI, 287, .inl o_f0o56)), (bs 1, .inl (cI, 7, .inl o_f1o57)), (bs 2, .inl (cI, 7, .inl o_f2o58)), (bs 3, .inl (cJ, 7, .inr (.inl o_f3o59))), (bs 4, .inl (cI, 7, .inl o_f4o60)), (bs 6, .inl (cI, 78, .inl o_f6o62)), (bs 7, .inl (cJ, 13, .inr (.inl o_f7o63))), (bs 8, .inl (cJ, 13, .inr (.inl o_f8o64))), (bs 9, .inl (cJ, 13, .inr (.inl o_f9o65))), (b 1, oX0 bt t_lines t_span t_rule t_odds t_wide t_high t_creeks t_houses t_widows t_acts), (bt 11, .inl (cI, 6, .inl t_f11)), (bt 12, .inl (cI, 7, .inl t_f12)), (bt 13, .inl (cI, 7, .inl t_f13)), (bt 14, .inl (cI, 7, .inl t_f14)), (bt 15, .inl (cI, 7, .inl t_f15)), (bt 16, .inl (cI, 7, .inl t_f16)), (bt 17, .inl (cI, 56, .inl t_f17)), (b 3, oX7 z0 o_ruleo40 v50 o_creekso42 o_widowo43 o_faceso44 o_turno45), (b 5, oX6 bs o_fieldo54 o_houseso55), (bs 5, .inl (cI, 6, .inl o_f5o61))] H := hP
          have hD : va_D A [(h0, oX9 b), (b 4, oX6 bn n_field n_houses), (bn 5, .inl (cI, 6, .inl n_f5)), (bt 10, .inl (cI, 12, .inl t_f10)), (bt 18, .inl (cI, 30, .inl t_f18)), (bs 0, .inl (cI, 287, .inl o_f0o56)), (bs 1, .inl (cI, 7, .inl o_f1o57)), (bs 2, .inl (cI, 7, .inl o_f2o58)), (bs 3, .inl (cJ, 7, .inr (.inl o_f3o59))), (bs 4, .inl (cI, 7, .inl o_f4o60)), (bs 6, .inl (cI, 78, .inl o_f6o62)), (bs 7, .inl (cJ, 13, .inr (.inl o_f7o63))), (bs 8, .inl (cJ, 13, .inr (.inl o_f8o64))), (bs 9, .inl (cJ, 13, .inr (.inl o_f9o65))), (b 1, oX0 bt t_lines t_span t_rule t_odds t_wide t_high t_creeks t_houses t_widows t_acts), (bt 11, .inl (cI, 6, .inl t_f11)), (bt 12, .inl (cI, 7, .inl t_f12)), (bt 13, .inl (cI, 7, .inl t_f13)), (bt 14, .inl (cI, 7, .inl t_f14)), (bt 15, .inl (cI, 7, .inl t_f15)), (bt 16, .inl (cI, 7, .inl t_f16)), (bt 17, .inl (cI, 56, .inl t_f17)), (b 3, oX7 z0 o_ruleo40 v50 o_creekso42 o_widowo43 o_faceso44 o_turno45), (b 5, oX6 bs o_fieldo54 o_houseso55), (bs 5, .inl (cI, 6, .inl o_f5o61))] := hD
          refine lv_iload_n hx hb dX9_blame_86 rfl (lv_at hl 2 rfl) ?_
          refine lv_icmp_ge (tgt := 100) hx hb dX9_blame_87 (by decide) (fun c72 => ?_) (fun c72 => ?_)
          · have c72 := i_le rfl rfl c72
            obtain ⟨v73, ev73⟩ : ∃ y : Int32, y = x9 + 1 := ⟨_, rfl⟩
            have tv73 : v73.toInt = x9.toInt + 1 := ti_add rfl ki_1 ev73 (by omega) (by omega)
            refine lv_iinc (v := v73) (lv' := [(3, .int v73), (2, .int x8), (1, .int x7), (0, .ref h0)]) hx hb dX9_blame_100 hl (k := 0) rfl (by rw [ev73]; rfl) (by decide) rfl (fun ls hl => ?_)
            refine lv_goto (tgt := 25) hx hb dX9_blame_103 (by decide) ?_
            exact ih34 x7 x8 v73 o_ruleo40 v50 o_creekso42 o_widowo43 o_faceso44 o_turno45 o_fieldo54 o_houseso55 o_f0o56 o_f1o57 o_f2o58 o_f3o59 o_f4o60 o_f5o61 o_f6o62 o_f7o63 o_f8o64 o_f9o65 k28 (by omega) (by omega) w66 w67 w68 (by omega) _ _ (hP.sub [0, 14, 3, 15, 16, 17, 18, 19, 20, 21, 4, 22, 23, 5, 6, 7, 8, 9, 24, 10, 11, 12, 13, 1, 2] rfl) (hD.sub [0, 14, 3, 15, 16, 17, 18, 19, 20, 21, 4, 22, 23, 5, 6, 7, 8, 9, 24, 10, 11, 12, 13, 1, 2] rfl rfl) hS ls (lv_sub hl [0, 1, 2, 3] rfl)
          · have c72 := i_nle rfl rfl c72
            refine lv_aload_n hx hb dX9_blame_90 rfl (lv_at hl 3 rfl) ?_
            refine va_get (D := G) (ci := 9) (v := .ref (b 5)) (C := RX9) (T := TX9) (N := 11) hx hb hts iG_X9 hown hK hP 0 rfl rfl 5 (by decide) (hts _ w_356) (fun _ h9 => h9) rfl dX9_blame_91 ?_
            refine k_i (wc := [(b 5, oX6 bs o_fieldo54 o_houseso55), (bs 5, .inl (cI, 6, .inl o_f5o61))]) (wr := [(h0, oX9 b), (b 4, oX6 bn n_field n_houses), (bn 5, .inl (cI, 6, .inl n_f5)), (bt 10, .inl (cI, 12, .inl t_f10)), (bt 18, .inl (cI, 30, .inl t_f18)), (bs 0, .inl (cI, 287, .inl o_f0o56)), (bs 1, .inl (cI, 7, .inl o_f1o57)), (bs 2, .inl (cI, 7, .inl o_f2o58)), (bs 3, .inl (cJ, 7, .inr (.inl o_f3o59))), (bs 4, .inl (cI, 7, .inl o_f4o60)), (bs 6, .inl (cI, 78, .inl o_f6o62)), (bs 7, .inl (cJ, 13, .inr (.inl o_f7o63))), (bs 8, .inl (cJ, 13, .inr (.inl o_f8o64))), (bs 9, .inl (cJ, 13, .inr (.inl o_f9o65))), (b 1, oX0 bt t_lines t_span t_rule t_odds t_wide t_high t_creeks t_houses t_widows t_acts), (bt 11, .inl (cI, 6, .inl t_f11)), (bt 12, .inl (cI, 7, .inl t_f12)), (bt 13, .inl (cI, 7, .inl t_f13)), (bt 14, .inl (cI, 7, .inl t_f14)), (bt 15, .inl (cI, 7, .inl t_f15)), (bt 16, .inl (cI, 7, .inl t_f16)), (bt 17, .inl (cI, 56, .inl t_f17)), (b 3, oX7 z0 o_ruleo40 v50 o_creekso42 o_widowo43 o_faceso44 o_turno45)]) hP hD hS hA [23, 24] [0, 1, 2, 3, 4, 5, 6, 7, 8, 9, 10, 11, 12, 13, 14, 15, 16, 17, 18, 19, 20, 21, 22] rfl rfl rfl (by decide) (va_runVN (As := []) (rest := []) ⟨hx, hb, hml, hown, hts⟩ (f_X6_allShifts l G cI cJ cZ cB cQ _ (b 5) bs o_fieldo54 o_houseso55 o_f5o61 w66 w67) ⟨va_cnB (host := "WidowRoads") 0 hts (gW w_934) rfl rfl rfl (nz_nw hZ nw_931 rfl) (hts _ w_6) hd_X6_allShifts ⟨Nat.le_of_ble_eq_true rfl, Nat.le_of_ble_eq_true rfl⟩, (hts _ w_933), (hts _ wp_57)⟩ (mV hK hZ hP hD [23, 24] rfl rfl [] 23 6 rfl rfl) rfl rfl hl.1 rfl (lv_room (Nat.le_of_ble_eq_true rfl)) dX9_blame_94 ⟨Nat.le_of_ble_eq_true rfl, Nat.le_of_ble_eq_true rfl⟩) (fun r74 u75 H locs hw76 hP hD hS => ?_)
            try dsimp only at hw76
            have hP : va_P G vwCl [(h0, oX9 b), (b 4, oX6 bn n_field n_houses), (bn 5, .inl (cI, 6, .inl n_f5)), (bt 10, .inl (cI, 12, .inl t_f10)), (bt 18, .inl (cI, 30, .inl t_f18)), (bs 0, .inl (cI, 287, .inl o_f0o56)), (bs 1, .inl (cI, 7, .inl o_f1o57)), (bs 2, .inl (cI, 7, .inl o_f2o58)), (bs 3, .inl (cJ, 7, .inr (.inl o_f3o59))), (bs 4, .inl (cI, 7, .inl o_f4o60)), (bs 6, .inl (cI, 78, .inl o_f6o62)), (bs 7, .inl (cJ, 13, .inr (.inl o_f7o63))), (bs 8, .inl (cJ, 13, .inr (.inl o_f8o64))), (bs 9, .inl (cJ, 13, .inr (.inl o_f9o65))), (b 1, oX0 bt t_lines t_span t_rule t_odds t_wide t_high t_creeks t_houses t_widows t_acts), (bt 11, .inl (cI, 6, .inl t_f11)), (bt 12, .inl (cI, 7, .inl t_f12)), (bt 13, .inl (cI, 7, .inl t_f13)), (bt 14, .inl (cI, 7, .inl t_f14)), (bt 15, .inl (cI, 7, .inl t_f15)), (bt 16, .inl (cI, 7, .inl t_f16)), (bt 17, .inl (cI, 56, .inl t_f17)), (b 3, oX7 z0 o_ruleo40 v50 o_creekso42 o_widowo43 o_faceso44 o_turno45), (b 5, oX6 bs o_fieldo54 o_houseso55), (bs 5, .inl (cI, 6, .inl o_f5o61))] H := hP
            have hD : va_D A [(h0, oX9 b), (b 4, oX6 bn n_field n_houses), (bn 5, .inl (cI, 6, .inl n_f5)), (bt 10, .inl (cI, 12, .inl t_f10)), (bt 18, .inl (cI, 30, .inl t_f18)), (bs 0, .inl (cI, 287, .inl o_f0o56)), (bs 1, .inl (cI, 7, .inl o_f1o57)), (bs 2, .inl (cI, 7, .inl o_f2o58)), (bs 3, .inl (cJ, 7, .inr (.inl o_f3o59))), (bs 4, .inl (cI, 7, .inl o_f4o60)), (bs 6, .inl (cI, 78, .inl o_f6o62)), (bs 7, .inl (cJ, 13, .inr (.inl o_f7o63))), (bs 8, .inl (cJ, 13, .inr (.inl o_f8o64))), (bs 9, .inl (cJ, 13, .inr (.inl o_f9o65))), (b 1, oX0 bt t_lines t_span t_rule t_odds t_wide t_high t_creeks t_houses t_widows t_acts), (bt 11, .inl (cI, 6, .inl t_f11)), (bt 12, .inl (cI, 7, .inl t_f12)), (bt 13, .inl (cI, 7, .inl t_f13)), (bt 14, .inl (cI, 7, .inl t_f14)), (bt 15, .inl (cI, 7, .inl t_f15)), (bt 16, .inl (cI, 7, .inl t_f16)), (bt 17, .inl (cI, 56, .inl t_f17)), (b 3, oX7 z0 o_ruleo40 v50 o_creekso42 o_widowo43 o_faceso44 o_turno45), (b 5, oX6 bs o_fieldo54 o_houseso55), (bs 5, .inl (cI, 6, .inl o_f5o61))] := hD
            refine lv_istore_n (lv' := [(1, .int r74), (3, .int x9), (2, .int x8), (0, .ref h0)]) hx hb dX9_blame_97 rfl hl (by decide) rfl (fun ls hl => ?_)
            refine lv_iload_n hx hb dX9_blame_98 rfl (lv_at hl 1 rfl) ?_
            refine lv_istore_n (lv' := [(2, .int x9), (1, .int r74), (3, .int x9), (0, .ref h0)]) hx hb dX9_blame_99 rfl hl (by decide) rfl (fun ls hl => ?_)
            obtain ⟨v77, ev77⟩ : ∃ y : Int32, y = x9 + 1 := ⟨_, rfl⟩
            have tv77 : v77.toInt = x9.toInt + 1 := ti_add rfl ki_1 ev77 (by omega) (by omega)
            refine lv_iinc (v := v77) (lv' := [(3, .int v77), (2, .int x9), (1, .int r74), (0, .ref h0)]) hx hb dX9_blame_100 hl (k := 2) rfl (by rw [ev77]; rfl) (by decide) rfl (fun ls hl => ?_)
            refine lv_goto (tgt := 25) hx hb dX9_blame_103 (by decide) ?_
            exact ih34 r74 x9 v77 o_ruleo40 v50 o_creekso42 o_widowo43 o_faceso44 o_turno45 o_fieldo54 o_houseso55 o_f0o56 o_f1o57 o_f2o58 o_f3o59 o_f4o60 o_f5o61 o_f6o62 o_f7o63 o_f8o64 o_f9o65 (by omega) (by omega) (by omega) w66 w67 w68 (by omega) _ _ (hP.sub [0, 14, 3, 15, 16, 17, 18, 19, 20, 21, 4, 22, 23, 5, 6, 7, 8, 9, 24, 10, 11, 12, 13, 1, 2] rfl) (hD.sub [0, 14, 3, 15, 16, 17, 18, 19, 20, 21, 4, 22, 23, 5, 6, 7, 8, 9, 24, 10, 11, 12, 13, 1, 2] rfl rfl) hS ls (lv_sub hl [0, 1, 2, 3] rfl)
    exact lp5 8 r2 (-1) 0 u_rule u_walkers u_creeks u_widow u_faces u_turn s_field s_houses s_f0 s_f1 s_f2 s_f3 s_f4 s_f5 s_f6 s_f7 s_f8 s_f9 (by rw [ki_m1]; decide) (by rw [ki_0]; decide) (by rw [ki_0]; decide) hl_s_houses hh_s_houses ha_s_f1 (by rw [ki_0]; decide) _ _ hP hD hS ls (lv_sub hl [0, 1, 2, 3] rfl)
  · have c1 := i_eq rfl ki_0 c1
    refine lv_bipush (v := (-2)) hx hb dX9_blame_10 (by decide) ?_
    exact hret _ _ _ _ (-2) (u_rule, u_walkers, u_creeks, u_widow, u_faces, u_turn, s_field, s_houses, s_f0, s_f1, s_f2, s_f3, s_f4, s_f5, s_f6, s_f7, s_f8, s_f9) hP hD hS dX9_blame_12 (show 0 ≤ s_houses.toInt ∧ s_houses.toInt ≤ 6 ∧ ai s_f1 7 (-1) 40 from ⟨hl_s_houses, hh_s_houses, ha_s_f1⟩)
set_option maxHeartbeats 4000000 in
set_option maxRecDepth 100000 in
theorem f_X9_ford (l : Launch) (G : va_G) (cI cJ cZ cB cQ : ClassId) (sz : Nat) (h0 : Nat) (b : Nat → Nat) (bt : Nat → Nat) (t_lines : Int32) (t_span : Int32) (t_rule : Int32) (t_odds : Int32) (t_wide : Int32) (t_high : Int32) (t_creeks : Int32) (t_houses : Int32) (t_widows : Int32) (t_acts : Int32) (t_f10 : Nat → Int32) (t_f11 : Nat → Int32) (t_f12 : Nat → Int32) (t_f13 : Nat → Int32) (t_f14 : Nat → Int32) (t_f15 : Nat → Int32) (t_f16 : Nat → Int32) (t_f17 : Nat → Int32) (t_f18 : Nat → Int32) (u_rule : Int32) (u_walkers : Int32) (u_creeks : Int64) (u_widow : Int32) (u_faces : Int32) (u_turn : Int32) (bs : Nat → Nat) (s_field : Int64) (s_houses : Int32) (s_f0 : Nat → Int32) (s_f1 : Nat → Int32) (s_f2 : Nat → Int32) (s_f3 : Nat → Int64) (s_f4 : Nat → Int32) (s_f5 : Nat → Int32) (s_f6 : Nat → Int32) (s_f7 : Nat → Int64) (s_f8 : Nat → Int64) (s_f9 : Nat → Int64) (bn : Nat → Nat) (n_field : Int64) (n_houses : Int32) (n_f8 : Nat → Int64) (n_f9 : Nat → Int64) (hl_t_span : 0 ≤ t_span.toInt) (hh_t_span : t_span.toInt ≤ 12) (hl_t_rule : 0 ≤ t_rule.toInt) (hh_t_rule : t_rule.toInt ≤ 3) (hl_t_odds : 0 ≤ t_odds.toInt) (hh_t_odds : t_odds.toInt ≤ 10) (hl_t_wide : 0 ≤ t_wide.toInt) (hh_t_wide : t_wide.toInt ≤ 8) (hl_t_high : 0 ≤ t_high.toInt) (hh_t_high : t_high.toInt ≤ 8) (hl_t_creeks : 0 ≤ t_creeks.toInt) (hh_t_creeks : t_creeks.toInt ≤ 12) (hl_t_houses : 0 ≤ t_houses.toInt) (hh_t_houses : t_houses.toInt ≤ 6) (hl_t_widows : 0 ≤ t_widows.toInt) (hh_t_widows : t_widows.toInt ≤ 7) (hl_t_acts : 0 ≤ t_acts.toInt) (hh_t_acts : t_acts.toInt ≤ 30) (ha_t_f14 : ai t_f14 7 (-2147483648) 40) (ha_t_f16 : ai t_f16 7 (-2147483648) 8) (hl_s_houses : 0 ≤ s_houses.toInt) (hh_s_houses : s_houses.toInt ≤ 6) (ha_s_f1 : ai s_f1 7 (-1) 40) (hl_n_houses : 0 ≤ n_houses.toInt) (hh_n_houses : n_houses.toInt ≤ 6) : CI l yX9_ford (wl_ yX9_ford cX9_ford 4 (some .int)) ({ frames := 4, cells := 0, slots := 0, locals := 105 } : Room) G (TY cI cJ cZ cB cQ) [.ref h0] [(h0, oX9 b), (b 1, oX0 bt t_lines t_span t_rule t_odds t_wide t_high t_creeks t_houses t_widows t_acts), (bt 10, .inl (cI, 12, .inl t_f10)), (bt 11, .inl (cI, 6, .inl t_f11)), (bt 12, .inl (cI, 7, .inl t_f12)), (bt 13, .inl (cI, 7, .inl t_f13)), (bt 14, .inl (cI, 7, .inl t_f14)), (bt 15, .inl (cI, 7, .inl t_f15)), (bt 16, .inl (cI, 7, .inl t_f16)), (bt 17, .inl (cI, 56, .inl t_f17)), (bt 18, .inl (cI, 30, .inl t_f18)), (b 3, oX7 z0 u_rule u_walkers u_creeks u_widow u_faces u_turn), (b 5, oX6 bs s_field s_houses), (bs 0, .inl (cI, 287, .inl s_f0)), (bs 1, .inl (cI, 7, .inl s_f1)), (bs 2, .inl (cI, 7, .inl s_f2)), (bs 3, .inl (cJ, 7, .inr (.inl s_f3))), (bs 4, .inl (cI, 7, .inl s_f4)), (bs 5, .inl (cI, 6, .inl s_f5)), (bs 6, .inl (cI, 78, .inl s_f6)), (bs 7, .inl (cJ, 13, .inr (.inl s_f7))), (bs 8, .inl (cJ, 13, .inr (.inl s_f8))), (bs 9, .inl (cJ, 13, .inr (.inl s_f9))), (b 4, oX6 bn n_field n_houses), (bn 8, .inl (cJ, 13, .inr (.inl n_f8))), (bn 9, .inl (cJ, 13, .inr (.inl n_f9)))] sz (fun (r : Int32) (u : Int32 × Int32 × Int64 × Int32 × Int32 × Int32 × Int64 × Int32 × (Nat → Int32) × (Nat → Int32) × (Nat → Int32) × (Nat → Int64) × (Nat → Int32) × (Nat → Int32) × (Nat → Int32) × (Nat → Int64) × (Nat → Int64) × (Nat → Int64)) => 0 ≤ u.2.2.2.2.2.2.2.1.toInt ∧ u.2.2.2.2.2.2.2.1.toInt ≤ 6 ∧ ai u.2.2.2.2.2.2.2.2.2.1 7 (-1) 40) (fun u : Int32 × Int32 × Int64 × Int32 × Int32 × Int32 × Int64 × Int32 × (Nat → Int32) × (Nat → Int32) × (Nat → Int32) × (Nat → Int64) × (Nat → Int32) × (Nat → Int32) × (Nat → Int32) × (Nat → Int64) × (Nat → Int64) × (Nat → Int64) => [(h0, oX9 b), (b 1, oX0 bt t_lines t_span t_rule t_odds t_wide t_high t_creeks t_houses t_widows t_acts), (bt 10, .inl (cI, 12, .inl t_f10)), (bt 11, .inl (cI, 6, .inl t_f11)), (bt 12, .inl (cI, 7, .inl t_f12)), (bt 13, .inl (cI, 7, .inl t_f13)), (bt 14, .inl (cI, 7, .inl t_f14)), (bt 15, .inl (cI, 7, .inl t_f15)), (bt 16, .inl (cI, 7, .inl t_f16)), (bt 17, .inl (cI, 56, .inl t_f17)), (bt 18, .inl (cI, 30, .inl t_f18)), (b 3, oX7 z0 u.1 u.2.1 u.2.2.1 u.2.2.2.1 u.2.2.2.2.1 u.2.2.2.2.2.1), (b 5, oX6 bs u.2.2.2.2.2.2.1 u.2.2.2.2.2.2.2.1), (bs 0, .inl (cI, 287, .inl u.2.2.2.2.2.2.2.2.1)), (bs 1, .inl (cI, 7, .inl u.2.2.2.2.2.2.2.2.2.1)), (bs 2, .inl (cI, 7, .inl u.2.2.2.2.2.2.2.2.2.2.1)), (bs 3, .inl (cJ, 7, .inr (.inl u.2.2.2.2.2.2.2.2.2.2.2.1))), (bs 4, .inl (cI, 7, .inl u.2.2.2.2.2.2.2.2.2.2.2.2.1)), (bs 5, .inl (cI, 6, .inl u.2.2.2.2.2.2.2.2.2.2.2.2.2.1)), (bs 6, .inl (cI, 78, .inl u.2.2.2.2.2.2.2.2.2.2.2.2.2.2.1)), (bs 7, .inl (cJ, 13, .inr (.inl u.2.2.2.2.2.2.2.2.2.2.2.2.2.2.2.1))), (bs 8, .inl (cJ, 13, .inr (.inl u.2.2.2.2.2.2.2.2.2.2.2.2.2.2.2.2.1))), (bs 9, .inl (cJ, 13, .inr (.inl u.2.2.2.2.2.2.2.2.2.2.2.2.2.2.2.2.2))), (b 4, oX6 bn n_field n_houses), (bn 8, .inl (cJ, 13, .inr (.inl n_f8))), (bn 9, .inl (cJ, 13, .inr (.inl n_f9)))]) 0 0 := by
  refine CI.go (cc := cX9_ford) (maxL := 4) (ret := (some .int)) (by decide) rfl (Nat.le_of_ble_eq_true rfl) ?_
  intro p e s m below meth c A ls Q hBd hret
  obtain ⟨hx, hb, hr, hml, hts, hown, hlk, hnm, hP, hK, hD, hA, hZ, hl⟩ := hBd
  have hown : s.vm.findClass RX9 = some m.cls := hown
  have hl : lv_has ls 4 [(0, .ref h0)] := hl
  have hS : va_S A s.heap s.heap [] := va_S.rf
  refine lv_aload_n hx hb dX9_ford_0 rfl (lv_at hl 0 rfl) ?_
  refine va_get (D := G) (ci := 9) (v := .ref (b 1)) (C := RX9) (T := TX9) (N := 11) hx hb hts iG_X9 hown hK hP 0 rfl rfl 1 (by decide) (hts _ w_352) (fun _ h9 => h9) rfl dX9_ford_1 ?_
  refine va_getN (D := G) (ci := 0) (v := .int t_lines) (C := RX0) (T := TX0) (N := 19) hx hb hts iG_X0 hown hK hP 1 rfl rfl 0 (by decide) (nz_use hZ nw_57 rfl) (fun _ h9 => h9) rfl dX9_ford_4 ?_
  refine lv_if_ne (tgt := 13) hx hb dX9_ford_7 (by decide) (fun c1 => ?_) (fun c1 => ?_)
  · have c1 := i_ne rfl ki_0 c1
    refine lv_aload_n hx hb dX9_ford_13 rfl (lv_at hl 0 rfl) ?_
    refine va_get (D := G) (ci := 9) (v := .ref (b 4)) (C := RX9) (T := TX9) (N := 11) hx hb hts iG_X9 hown hK hP 0 rfl rfl 4 (by decide) (hts _ w_355) (fun _ h9 => h9) rfl dX9_ford_14 ?_
    refine lv_aload_n hx hb dX9_ford_17 rfl (lv_at hl 0 rfl) ?_
    refine va_get (D := G) (ci := 9) (v := .ref (b 1)) (C := RX9) (T := TX9) (N := 11) hx hb hts iG_X9 hown hK hP 0 rfl rfl 1 (by decide) (hts _ w_352) (fun _ h9 => h9) rfl dX9_ford_18 ?_
    refine va_getN (D := G) (ci := 0) (v := .int t_span) (C := RX0) (T := TX0) (N := 19) hx hb hts iG_X0 hown hK hP 1 rfl rfl 1 (by decide) (nz_use hZ nw_62 rfl) (fun _ h9 => h9) rfl dX9_ford_21 ?_
    refine k_i (wc := [(b 4, oX6 bn n_field n_houses), (bn 8, .inl (cJ, 13, .inr (.inl n_f8))), (bn 9, .inl (cJ, 13, .inr (.inl n_f9)))]) (wr := [(h0, oX9 b), (b 1, oX0 bt t_lines t_span t_rule t_odds t_wide t_high t_creeks t_houses t_widows t_acts), (bt 10, .inl (cI, 12, .inl t_f10)), (bt 11, .inl (cI, 6, .inl t_f11)), (bt 12, .inl (cI, 7, .inl t_f12)), (bt 13, .inl (cI, 7, .inl t_f13)), (bt 14, .inl (cI, 7, .inl t_f14)), (bt 15, .inl (cI, 7, .inl t_f15)), (bt 16, .inl (cI, 7, .inl t_f16)), (bt 17, .inl (cI, 56, .inl t_f17)), (bt 18, .inl (cI, 30, .inl t_f18)), (b 3, oX7 z0 u_rule u_walkers u_creeks u_widow u_faces u_turn), (b 5, oX6 bs s_field s_houses), (bs 0, .inl (cI, 287, .inl s_f0)), (bs 1, .inl (cI, 7, .inl s_f1)), (bs 2, .inl (cI, 7, .inl s_f2)), (bs 3, .inl (cJ, 7, .inr (.inl s_f3))), (bs 4, .inl (cI, 7, .inl s_f4)), (bs 5, .inl (cI, 6, .inl s_f5)), (bs 6, .inl (cI, 78, .inl s_f6)), (bs 7, .inl (cJ, 13, .inr (.inl s_f7))), (bs 8, .inl (cJ, 13, .inr (.inl s_f8))), (bs 9, .inl (cJ, 13, .inr (.inl s_f9)))]) hP hD hS hA [23, 24, 25] [0, 1, 2, 3, 4, 5, 6, 7, 8, 9, 10, 11, 12, 13, 14, 15, 16, 17, 18, 19, 20, 21, 22] rfl rfl rfl (by decide) (va_runVN (As := [.int t_span]) (rest := []) ⟨hx, hb, hml, hown, hts⟩ (f_X6_pegsIn l G cI cJ cZ cB cQ _ (b 4) t_span bn n_field n_houses n_f8 n_f9 hl_t_span hh_t_span hl_n_houses hh_n_houses) ⟨va_cnB (host := "WidowRoads") 1 hts (gW w_772) rfl rfl rfl (nz_nw hZ nw_769 rfl) (hts _ w_6) hd_X6_pegsIn ⟨Nat.le_of_ble_eq_true rfl, Nat.le_of_ble_eq_true rfl⟩, (hts _ w_771), (hts _ wp_44)⟩ (mV hK hZ hP hD [23, 24, 25] rfl rfl [.int t_span] 23 6 rfl rfl) rfl rfl hl.1 rfl (lv_room (Nat.le_of_ble_eq_true rfl)) dX9_ford_24 ⟨Nat.le_of_ble_eq_true rfl, Nat.le_of_ble_eq_true rfl⟩) (fun r2 u3 H locs hw4 hP hD hS => ?_)
    try dsimp only at hw4
    have hP : va_P G vwCl [(h0, oX9 b), (b 1, oX0 bt t_lines t_span t_rule t_odds t_wide t_high t_creeks t_houses t_widows t_acts), (bt 10, .inl (cI, 12, .inl t_f10)), (bt 11, .inl (cI, 6, .inl t_f11)), (bt 12, .inl (cI, 7, .inl t_f12)), (bt 13, .inl (cI, 7, .inl t_f13)), (bt 14, .inl (cI, 7, .inl t_f14)), (bt 15, .inl (cI, 7, .inl t_f15)), (bt 16, .inl (cI, 7, .inl t_f16)), (bt 17, .inl (cI, 56, .inl t_f17)), (bt 18, .inl (cI, 30, .inl t_f18)), (b 3, oX7 z0 u_rule u_walkers u_creeks u_widow u_faces u_turn), (b 5, oX6 bs s_field s_houses), (bs 0, .inl (cI, 287, .inl s_f0)), (bs 1, .inl (cI, 7, .inl s_f1)), (bs 2, .inl (cI, 7, .inl s_f2)), (bs 3, .inl (cJ, 7, .inr (.inl s_f3))), (bs 4, .inl (cI, 7, .inl s_f4)), (bs 5, .inl (cI, 6, .inl s_f5)), (bs 6, .inl (cI, 78, .inl s_f6)), (bs 7, .inl (cJ, 13, .inr (.inl s_f7))), (bs 8, .inl (cJ, 13, .inr (.inl s_f8))), (bs 9, .inl (cJ, 13, .inr (.inl s_f9))), (b 4, oX6 bn n_field n_houses), (bn 8, .inl (cJ, 13, .inr (.inl n_f8))), (bn 9, .inl (cJ, 13, .inr (.inl n_f9)))] H := hP
    have hD : va_D A [(h0, oX9 b), (b 1, oX0 bt t_lines t_span t_rule t_odds t_wide t_high t_creeks t_houses t_widows t_acts), (bt 10, .inl (cI, 12, .inl t_f10)), (bt 11, .inl (cI, 6, .inl t_f11)), (bt 12, .inl (cI, 7, .inl t_f12)), (bt 13, .inl (cI, 7, .inl t_f13)), (bt 14, .inl (cI, 7, .inl t_f14)), (bt 15, .inl (cI, 7, .inl t_f15)), (bt 16, .inl (cI, 7, .inl t_f16)), (bt 17, .inl (cI, 56, .inl t_f17)), (bt 18, .inl (cI, 30, .inl t_f18)), (b 3, oX7 z0 u_rule u_walkers u_creeks u_widow u_faces u_turn), (b 5, oX6 bs s_field s_houses), (bs 0, .inl (cI, 287, .inl s_f0)), (bs 1, .inl (cI, 7, .inl s_f1)), (bs 2, .inl (cI, 7, .inl s_f2)), (bs 3, .inl (cJ, 7, .inr (.inl s_f3))), (bs 4, .inl (cI, 7, .inl s_f4)), (bs 5, .inl (cI, 6, .inl s_f5)), (bs 6, .inl (cI, 78, .inl s_f6)), (bs 7, .inl (cJ, 13, .inr (.inl s_f7))), (bs 8, .inl (cJ, 13, .inr (.inl s_f8))), (bs 9, .inl (cJ, 13, .inr (.inl s_f9))), (b 4, oX6 bn n_field n_houses), (bn 8, .inl (cJ, 13, .inr (.inl n_f8))), (bn 9, .inl (cJ, 13, .inr (.inl n_f9)))] := hD
    refine lv_istore_n (lv' := [(1, .int r2), (0, .ref h0)]) hx hb dX9_ford_27 rfl hl (by decide) rfl (fun ls hl => ?_)
    refine lv_iconst (v := (-1)) hx hb dX9_ford_28 (by decide) ?_
    refine lv_istore_n (lv' := [(2, .int (-1)), (1, .int r2), (0, .ref h0)]) hx hb dX9_ford_29 rfl hl (by decide) rfl (fun ls hl => ?_)
    refine lv_iconst (v := 0) hx hb dX9_ford_30 (by decide) ?_
    refine lv_istore_n (lv' := [(3, .int 0), (2, .int (-1)), (1, .int r2), (0, .ref h0)]) hx hb dX9_ford_31 rfl hl (by decide) rfl (fun ls hl => ?_)
    have lp5 : ∀ (n6 : Nat) (x7 : Int32) (x8 : Int32) (x9 : Int32) (z10 : Int32) (z11 : Int32) (y12 : Int64) (z13 : Int32) (z14 : Int32) (z15 : Int32) (y16 : Int64) (z17 : Int32) (g18 : Nat → Int32) (g19 : Nat → Int32) (g20 : Nat → Int32) (g21 : Nat → Int64) (g22 : Nat → Int32) (g23 : Nat → Int32) (g24 : Nat → Int32) (g25 : Nat → Int64) (g26 : Nat → Int64) (g27 : Nat → Int64), (-1) ≤ x8.toInt → 0 ≤ x9.toInt → x9.toInt ≤ 12 → 0 ≤ z17.toInt → z17.toInt ≤ 6 → ai g19 7 (-1) 40 → 12 - x9.toInt < (n6 : Int) → ∀ (H : Heap) (locs : List Loc), va_P G vwCl [(h0, oX9 b), (b 1, oX0 bt t_lines t_span t_rule t_odds t_wide t_high t_creeks t_houses t_widows t_acts), (bt 10, .inl (cI, 12, .inl t_f10)), (bt 11, .inl (cI, 6, .inl t_f11)), (bt 12, .inl (cI, 7, .inl t_f12)), (bt 13, .inl (cI, 7, .inl t_f13)), (bt 14, .inl (cI, 7, .inl t_f14)), (bt 15, .inl (cI, 7, .inl t_f15)), (bt 16, .inl (cI, 7, .inl t_f16)), (bt 17, .inl (cI, 56, .inl t_f17)), (bt 18, .inl (cI, 30, .inl t_f18)), (b 3, oX7 z0 z10 z11 y12 z13 z14 z15), (b 5, oX6 bs y16 z17), (bs 0, .inl (cI, 287, .inl g18)), (bs 1, .inl (cI, 7, .inl g19)), (bs 2, .inl (cI, 7, .inl g20)), (bs 3, .inl (cJ, 7, .inr (.inl g21))), (bs 4, .inl (cI, 7, .inl g22)), (bs 5, .inl (cI, 6, .inl g23)), (bs 6, .inl (cI, 78, .inl g24)), (bs 7, .inl (cJ, 13, .inr (.inl g25))), (bs 8, .inl (cJ, 13, .inr (.inl g26))), (bs 9, .inl (cJ, 13, .inr (.inl g27))), (b 4, oX6 bn n_field n_houses), (bn 8, .inl (cJ, 13, .inr (.inl n_f8))), (bn 9, .inl (cJ, 13, .inr (.inl n_f9)))] H → va_D A [(h0, oX9 b), (b 1, oX0 bt t_lines t_span t_rule t_odds t_wide t_high t_creeks t_houses t_widows t_acts), (bt 10, .inl (cI, 12, .inl t_f10)), (bt 11, .inl (cI, 6, .inl t_f11)), (bt 12, .inl (cI, 7, .inl t_f12)), (bt 13, .inl (cI, 7, .inl t_f13)), (bt 14, .inl (cI, 7, .inl t_f14)), (bt 15, .inl (cI, 7, .inl t_f15)), (bt 16, .inl (cI, 7, .inl t_f16)), (bt 17, .inl (cI, 56, .inl t_f17)), (bt 18, .inl (cI, 30, .inl t_f18)), (b 3, oX7 z0 z10 z11 y12 z13 z14 z15), (b 5, oX6 bs y16 z17), (bs 0, .inl (cI, 287, .inl g18)), (bs 1, .inl (cI, 7, .inl g19)), (bs 2, .inl (cI, 7, .inl g20)), (bs 3, .inl (cJ, 7, .inr (.inl g21))), (bs 4, .inl (cI, 7, .inl g22)), (bs 5, .inl (cI, 6, .inl g23)), (bs 6, .inl (cI, 78, .inl g24)), (bs 7, .inl (cJ, 13, .inr (.inl g25))), (bs 8, .inl (cJ, 13, .inr (.inl g26))), (bs 9, .inl (cJ, 13, .inr (.inl g27))), (b 4, oX6 bn n_field n_houses), (bn 8, .inl (cJ, 13, .inr (.inl n_f8))), (bn 9, .inl (cJ, 13, .inr (.inl n_f9)))] → va_S A s.heap H locs → ∀ (ls : Array Slot), lv_has ls 4 [(3, .int x9), (2, .int x8), (1, .int x7), (0, .ref h0)] → W p l e ({ frames := 4, cells := 0, slots := 0, locals := 105 } : Room) s m ([.ref h0] : List Value).toArray below meth c H locs 0 0 Q (F0 m 32 ls []) := by
      intro n6
      induction n6 with
      | zero =>
        intro x7 x8 x9 z10 z11 y12 z13 z14 z15 y16 z17 g18 g19 g20 g21 g22 g23 g24 g25 g26 g27 k28 k29 k30 k31 k32 k33 mm35
        exact absurd mm35 (by have q9 := fb_rng x9; omega)
      | succ n6 ih34 =>
        intro x7 x8 x9 z10 z11 y12 z13 z14 z15 y16 z17 g18 g19 g20 g21 g22 g23 g24 g25 g26 g27 k28 k29 k30 k31 k32 k33 mm35 H locs hP hD hS ls hl
        refine lv_iload_n hx hb dX9_ford_32 rfl (lv_at hl 0 rfl) ?_
        refine lv_aload_n hx hb dX9_ford_33 rfl (lv_at hl 3 rfl) ?_
        refine va_get (D := G) (ci := 9) (v := .ref (b 1)) (C := RX9) (T := TX9) (N := 11) hx hb hts iG_X9 hown hK hP 0 rfl rfl 1 (by decide) (hts _ w_352) (fun _ h9 => h9) rfl dX9_ford_34 ?_
        refine va_getN (D := G) (ci := 0) (v := .int t_creeks) (C := RX0) (T := TX0) (N := 19) hx hb hts iG_X0 hown hK hP 1 rfl rfl 6 (by decide) (nz_use hZ nw_79 rfl) (fun _ h9 => h9) rfl dX9_ford_37 ?_
        refine lv_icmp_ge (tgt := 138) hx hb dX9_ford_40 (by decide) (fun c36 => ?_) (fun c36 => ?_)
        · have c36 := i_le rfl rfl c36
          refine lv_iload_n hx hb dX9_ford_138 rfl (lv_at hl 1 rfl) ?_
          exact hret _ _ _ _ x8 (z10, z11, y12, z13, z14, z15, y16, z17, g18, g19, g20, g21, g22, g23, g24, g25, g26, g27) hP hD hS dX9_ford_139 (show 0 ≤ z17.toInt ∧ z17.toInt ≤ 6 ∧ ai g19 7 (-1) 40 from ⟨k31, k32, k33⟩)
        · have c36 := i_nle rfl rfl c36
          refine lv_aload_n hx hb dX9_ford_43 rfl (lv_at hl 3 rfl) ?_
          refine va_get (D := G) (ci := 9) (v := .ref (b 3)) (C := RX9) (T := TX9) (N := 11) hx hb hts iG_X9 hown hK hP 0 rfl rfl 3 (by decide) (hts _ w_354) (fun _ h9 => h9) rfl dX9_ford_44 ?_
          refine lv_aload_n hx hb dX9_ford_47 rfl (lv_at hl 3 rfl) ?_
          refine va_get (D := G) (ci := 9) (v := .ref (b 1)) (C := RX9) (T := TX9) (N := 11) hx hb hts iG_X9 hown hK hP 0 rfl rfl 1 (by decide) (hts _ w_352) (fun _ h9 => h9) rfl dX9_ford_48 ?_
          refine k_v (wc := [(b 3, oX7 z0 z10 z11 y12 z13 z14 z15), (b 1, oX0 bt t_lines t_span t_rule t_odds t_wide t_high t_creeks t_houses t_widows t_acts), (bt 10, .inl (cI, 12, .inl t_f10)), (bt 18, .inl (cI, 30, .inl t_f18))]) (wr := [(h0, oX9 b), (bt 11, .inl (cI, 6, .inl t_f11)), (bt 12, .inl (cI, 7, .inl t_f12)), (bt 13, .inl (cI, 7, .inl t_f13)), (bt 14, .inl (cI, 7, .inl t_f14)), (bt 15, .inl (cI, 7, .inl t_f15)), (bt 16, .inl (cI, 7, .inl t_f16)), (bt 17, .inl (cI, 56, .inl t_f17)), (b 5, oX6 bs y16 z17), (bs 0, .inl (cI, 287, .inl g18)), (bs 1, .inl (cI, 7, .inl g19)), (bs 2, .inl (cI, 7, .inl g20)), (bs 3, .inl (cJ, 7, .inr (.inl g21))), (bs 4, .inl (cI, 7, .inl g22)), (bs 5, .inl (cI, 6, .inl g23)), (bs 6, .inl (cI, 78, .inl g24)), (bs 7, .inl (cJ, 13, .inr (.inl g25))), (bs 8, .inl (cJ, 13, .inr (.inl g26))), (bs 9, .inl (cJ, 13, .inr (.inl g27))), (b 4, oX6 bn n_field n_houses), (bn 8, .inl (cJ, 13, .inr (.inl n_f8))), (bn 9, .inl (cJ, 13, .inr (.inl n_f9)))]) hP hD hS hA [11, 1, 2, 10] [0, 3, 4, 5, 6, 7, 8, 9, 12, 13, 14, 15, 16, 17, 18, 19, 20, 21, 22, 23, 24, 25] rfl rfl rfl (by decide) (va_runVN (As := [.ref (b 1)]) (rest := []) ⟨hx, hb, hml, hown, hts⟩ (f_X7_asNow l G cI cJ cZ cB cQ _ (b 3) (b 1) z10 z11 y12 z13 z14 z15 bt t_lines t_span t_rule t_odds t_wide t_high t_creeks t_houses t_widows t_acts t_f10 t_f18 hl_t_span hh_t_span hl_t_rule hh_t_rule hl_t_odds hh_t_odds hl_t_wide hh_t_wide hl_t_high hh_t_high (by omega) hh_t_creeks hl_t_houses hh_t_houses hl_t_widows hh_t_widows hl_t_acts hh_t_acts) ⟨va_cnB (host := "WidowRoads") 1 hts (gW w_576) rfl rfl rfl (nz_nw hZ nw_573 rfl) (hts _ w_5) hd_X7_asNow ⟨Nat.le_of_ble_eq_true rfl, Nat.le_of_ble_eq_true rfl⟩, (hts _ w_575), (hts _ wp_22)⟩ (mV hK hZ hP hD [11, 1, 2, 10] rfl rfl [.ref (b 1)] 11 7 rfl rfl) rfl rfl hl.1 rfl (lv_room (Nat.le_of_ble_eq_true rfl)) dX9_ford_51 ⟨Nat.le_of_ble_eq_true rfl, Nat.le_of_ble_eq_true rfl⟩) (fun u38 H locs hw39 hP hD hS => ?_)
          obtain ⟨o_ruleo40, o_walkerso41, o_creekso42, o_widowo43, o_faceso44, o_turno45⟩ := u38
          try dsimp only at hw39
          have hP : va_P G vwCl [(h0, oX9 b), (bt 11, .inl (cI, 6, .inl t_f11)), (bt 12, .inl (cI, 7, .inl t_f12)), (bt 13, .inl (cI, 7, .inl t_f13)), (bt 14, .inl (cI, 7, .inl t_f14)), (bt 15, .inl (cI, 7, .inl t_f15)), (bt 16, .inl (cI, 7, .inl t_f16)), (bt 17, .inl (cI, 56, .inl t_f17)), (b 5, oX6 bs y16 z17), (bs 0, .inl (cI, 287, .inl g18)), (bs 1, .inl (cI, 7, .inl g19)), (bs 2, .inl (cI, 7, .inl g20)), (bs 3, .inl (cJ, 7, .inr (.inl g21))), (bs 4, .inl (cI, 7, .inl g22)), (bs 5, .inl (cI, 6, .inl g23)), (bs 6, .inl (cI, 78, .inl g24)), (bs 7, .inl (cJ, 13, .inr (.inl g25))), (bs 8, .inl (cJ, 13, .inr (.inl g26))), (bs 9, .inl (cJ, 13, .inr (.inl g27))), (b 4, oX6 bn n_field n_houses), (bn 8, .inl (cJ, 13, .inr (.inl n_f8))), (bn 9, .inl (cJ, 13, .inr (.inl n_f9))), (b 3, oX7 z0 o_ruleo40 o_walkerso41 o_creekso42 o_widowo43 o_faceso44 o_turno45), (b 1, oX0 bt t_lines t_span t_rule t_odds t_wide t_high t_creeks t_houses t_widows t_acts), (bt 10, .inl (cI, 12, .inl t_f10)), (bt 18, .inl (cI, 30, .inl t_f18))] H := hP
          have hD : va_D A [(h0, oX9 b), (bt 11, .inl (cI, 6, .inl t_f11)), (bt 12, .inl (cI, 7, .inl t_f12)), (bt 13, .inl (cI, 7, .inl t_f13)), (bt 14, .inl (cI, 7, .inl t_f14)), (bt 15, .inl (cI, 7, .inl t_f15)), (bt 16, .inl (cI, 7, .inl t_f16)), (bt 17, .inl (cI, 56, .inl t_f17)), (b 5, oX6 bs y16 z17), (bs 0, .inl (cI, 287, .inl g18)), (bs 1, .inl (cI, 7, .inl g19)), (bs 2, .inl (cI, 7, .inl g20)), (bs 3, .inl (cJ, 7, .inr (.inl g21))), (bs 4, .inl (cI, 7, .inl g22)), (bs 5, .inl (cI, 6, .inl g23)), (bs 6, .inl (cI, 78, .inl g24)), (bs 7, .inl (cJ, 13, .inr (.inl g25))), (bs 8, .inl (cJ, 13, .inr (.inl g26))), (bs 9, .inl (cJ, 13, .inr (.inl g27))), (b 4, oX6 bn n_field n_houses), (bn 8, .inl (cJ, 13, .inr (.inl n_f8))), (bn 9, .inl (cJ, 13, .inr (.inl n_f9))), (b 3, oX7 z0 o_ruleo40 o_walkerso41 o_creekso42 o_widowo43 o_faceso44 o_turno45), (b 1, oX0 bt t_lines t_span t_rule t_odds t_wide t_high t_creeks t_houses t_widows t_acts), (bt 10, .inl (cI, 12, .inl t_f10)), (bt 18, .inl (cI, 30, .inl t_f18))] := hD
          refine lv_aload_n hx hb dX9_ford_54 rfl (lv_at hl 3 rfl) ?_
          refine va_get (D := G) (ci := 9) (v := .ref (b 3)) (C := RX9) (T := TX9) (N := 11) hx hb hts iG_X9 hown hK hP 0 rfl rfl 3 (by decide) (hts _ w_354) (fun _ h9 => h9) rfl dX9_ford_55 ?_
          refine lv_dup hx hb dX9_ford_58 rfl ?_
          refine va_getN (D := G) (ci := 7) (v := .long o_creekso42) (C := RX7) (T := TX7) (N := 6) hx hb hts iG_X7 hown hK hP 22 rfl rfl 2 (by decide) (nz_use hZ nw_207 rfl) (fun _ h9 => h9) rfl dX9_ford_59 ?_
          refine lv_aload_n hx hb dX9_ford_62 rfl (lv_at hl 3 rfl) ?_
          refine va_get (D := G) (ci := 9) (v := .ref (b 1)) (C := RX9) (T := TX9) (N := 11) hx hb hts iG_X9 hown hK hP 0 rfl rfl 1 (by decide) (hts _ w_352) (fun _ h9 => h9) rfl dX9_ford_63 ?_
          refine va_getN (D := G) (ci := 0) (v := .ref (bt 10)) (C := RX0) (T := TX0) (N := 19) hx hb hts iG_X0 hown hK hP 23 rfl rfl 10 (by decide) (nz_use hZ nw_93 rfl) (fun _ h9 => h9) rfl dX9_ford_66 ?_
          refine lv_iload_n hx hb dX9_ford_69 rfl (lv_at hl 0 rfl) ?_
          refine va_iald hx hb hK hP 24 0 rfl rfl (ix_in rfl (by omega) (by omega)) dX9_ford_70 ?_
          refine lv_topi (fun v46 ev46 => ?_)
          refine k_l (wc := []) (wr := [(h0, oX9 b), (bt 11, .inl (cI, 6, .inl t_f11)), (bt 12, .inl (cI, 7, .inl t_f12)), (bt 13, .inl (cI, 7, .inl t_f13)), (bt 14, .inl (cI, 7, .inl t_f14)), (bt 15, .inl (cI, 7, .inl t_f15)), (bt 16, .inl (cI, 7, .inl t_f16)), (bt 17, .inl (cI, 56, .inl t_f17)), (b 5, oX6 bs y16 z17), (bs 0, .inl (cI, 287, .inl g18)), (bs 1, .inl (cI, 7, .inl g19)), (bs 2, .inl (cI, 7, .inl g20)), (bs 3, .inl (cJ, 7, .inr (.inl g21))), (bs 4, .inl (cI, 7, .inl g22)), (bs 5, .inl (cI, 6, .inl g23)), (bs 6, .inl (cI, 78, .inl g24)), (bs 7, .inl (cJ, 13, .inr (.inl g25))), (bs 8, .inl (cJ, 13, .inr (.inl g26))), (bs 9, .inl (cJ, 13, .inr (.inl g27))), (b 4, oX6 bn n_field n_houses), (bn 8, .inl (cJ, 13, .inr (.inl n_f8))), (bn 9, .inl (cJ, 13, .inr (.inl n_f9))), (b 3, oX7 z0 o_ruleo40 o_walkerso41 o_creekso42 o_widowo43 o_faceso44 o_turno45), (b 1, oX0 bt t_lines t_span t_rule t_odds t_wide t_high t_creeks t_houses t_widows t_acts), (bt 10, .inl (cI, 12, .inl t_f10)), (bt 18, .inl (cI, 30, .inl t_f18))]) hP hD hS hA [] [0, 1, 2, 3, 4, 5, 6, 7, 8, 9, 10, 11, 12, 13, 14, 15, 16, 17, 18, 19, 20, 21, 22, 23, 24, 25] rfl rfl rfl (by decide) (va_runS (As := [.int v46]) (rest := [.long o_creekso42, .ref (b 3)]) ⟨hx, hb, hml, hown, hts⟩ (f_X9_bit l G cI cJ cZ cB cQ _ v46) (va_cwS 1 hts (gS w_910 w_518 w_1 w_519) rfl rfl rfl hd_X9_bit ⟨Nat.le_of_ble_eq_true rfl, Nat.le_of_ble_eq_true rfl⟩) (mS hK hZ hP hD [] rfl rfl [.int v46]) rfl rfl hl.1 rfl (lv_room (Nat.le_of_ble_eq_true rfl)) dX9_ford_71 ⟨Nat.le_of_ble_eq_true rfl, Nat.le_of_ble_eq_true rfl⟩) (fun r47 u48 H locs hw49 hP hD hS => ?_)
          try dsimp only at hw49
          have hP : va_P G vwCl [(h0, oX9 b), (bt 11, .inl (cI, 6, .inl t_f11)), (bt 12, .inl (cI, 7, .inl t_f12)), (bt 13, .inl (cI, 7, .inl t_f13)), (bt 14, .inl (cI, 7, .inl t_f14)), (bt 15, .inl (cI, 7, .inl t_f15)), (bt 16, .inl (cI, 7, .inl t_f16)), (bt 17, .inl (cI, 56, .inl t_f17)), (b 5, oX6 bs y16 z17), (bs 0, .inl (cI, 287, .inl g18)), (bs 1, .inl (cI, 7, .inl g19)), (bs 2, .inl (cI, 7, .inl g20)), (bs 3, .inl (cJ, 7, .inr (.inl g21))), (bs 4, .inl (cI, 7, .inl g22)), (bs 5, .inl (cI, 6, .inl g23)), (bs 6, .inl (cI, 78, .inl g24)), (bs 7, .inl (cJ, 13, .inr (.inl g25))), (bs 8, .inl (cJ, 13, .inr (.inl g26))), (bs 9, .inl (cJ, 13, .inr (.inl g27))), (b 4, oX6 bn n_field n_houses), (bn 8, .inl (cJ, 13, .inr (.inl n_f8))), (bn 9, .inl (cJ, 13, .inr (.inl n_f9))), (b 3, oX7 z0 o_ruleo40 o_walkerso41 o_creekso42 o_widowo43 o_faceso44 o_turno45), (b 1, oX0 bt t_lines t_span t_rule t_odds t_wide t_high t_creeks t_houses t_widows t_acts), (bt 10, .inl (cI, 12, .inl t_f10)), (bt 18, .inl (cI, 30, .inl t_f18))] H := hP
          have hD : va_D A [(h0, oX9 b), (bt 11, .inl (cI, 6, .inl t_f11)), (bt 12, .inl (cI, 7, .inl t_f12)), (bt 13, .inl (cI, 7, .inl t_f13)), (bt 14, .inl (cI, 7, .inl t_f14)), (bt 15, .inl (cI, 7, .inl t_f15)), (bt 16, .inl (cI, 7, .inl t_f16)), (bt 17, .inl (cI, 56, .inl t_f17)), (b 5, oX6 bs y16 z17), (bs 0, .inl (cI, 287, .inl g18)), (bs 1, .inl (cI, 7, .inl g19)), (bs 2, .inl (cI, 7, .inl g20)), (bs 3, .inl (cJ, 7, .inr (.inl g21))), (bs 4, .inl (cI, 7, .inl g22)), (bs 5, .inl (cI, 6, .inl g23)), (bs 6, .inl (cI, 78, .inl g24)), (bs 7, .inl (cJ, 13, .inr (.inl g25))), (bs 8, .inl (cJ, 13, .inr (.inl g26))), (bs 9, .inl (cJ, 13, .inr (.inl g27))), (b 4, oX6 bn n_field n_houses), (bn 8, .inl (cJ, 13, .inr (.inl n_f8))), (bn 9, .inl (cJ, 13, .inr (.inl n_f9))), (b 3, oX7 z0 o_ruleo40 o_walkerso41 o_creekso42 o_widowo43 o_faceso44 o_turno45), (b 1, oX0 bt t_lines t_span t_rule t_odds t_wide t_high t_creeks t_houses t_widows t_acts), (bt 10, .inl (cI, 12, .inl t_f10)), (bt 18, .inl (cI, 30, .inl t_f18))] := hD
          refine lv_ldc2 (v := (-1)) hx hb hown (hts _ w_741) dX9_ford_74 ?_
          refine lv_lxor hx hb dX9_ford_77 ?_
          refine lv_topl (fun v50 ev50 => ?_)
          refine lv_land hx hb dX9_ford_78 ?_
          refine lv_topl (fun v51 ev51 => ?_)
          refine va_putN (D := G) (ci := 7) (v := .long v51) (ty := .long) (C := RX7) (T := TX7) (N := 6) hx hb hts iG_X7 tyX7 tyX7_ok nmX7 hown hK hP hD hS 22 rfl rfl 2 (by decide) (nz_use hZ nw_207 rfl) (fun _ h9 => h9) rfl (by decide +kernel) rfl rfl (Nat.le_of_ble_eq_true rfl) dX9_ford_79 (fun H locs hP hD hS => ?_)
          have hP : va_P G vwCl [(h0, oX9 b), (bt 11, .inl (cI, 6, .inl t_f11)), (bt 12, .inl (cI, 7, .inl t_f12)), (bt 13, .inl (cI, 7, .inl t_f13)), (bt 14, .inl (cI, 7, .inl t_f14)), (bt 15, .inl (cI, 7, .inl t_f15)), (bt 16, .inl (cI, 7, .inl t_f16)), (bt 17, .inl (cI, 56, .inl t_f17)), (b 5, oX6 bs y16 z17), (bs 0, .inl (cI, 287, .inl g18)), (bs 1, .inl (cI, 7, .inl g19)), (bs 2, .inl (cI, 7, .inl g20)), (bs 3, .inl (cJ, 7, .inr (.inl g21))), (bs 4, .inl (cI, 7, .inl g22)), (bs 5, .inl (cI, 6, .inl g23)), (bs 6, .inl (cI, 78, .inl g24)), (bs 7, .inl (cJ, 13, .inr (.inl g25))), (bs 8, .inl (cJ, 13, .inr (.inl g26))), (bs 9, .inl (cJ, 13, .inr (.inl g27))), (b 4, oX6 bn n_field n_houses), (bn 8, .inl (cJ, 13, .inr (.inl n_f8))), (bn 9, .inl (cJ, 13, .inr (.inl n_f9))), (b 3, oX7 z0 o_ruleo40 o_walkerso41 v51 o_widowo43 o_faceso44 o_turno45), (b 1, oX0 bt t_lines t_span t_rule t_odds t_wide t_high t_creeks t_houses t_widows t_acts), (bt 10, .inl (cI, 12, .inl t_f10)), (bt 18, .inl (cI, 30, .inl t_f18))] H := hP
          have hD : va_D A [(h0, oX9 b), (bt 11, .inl (cI, 6, .inl t_f11)), (bt 12, .inl (cI, 7, .inl t_f12)), (bt 13, .inl (cI, 7, .inl t_f13)), (bt 14, .inl (cI, 7, .inl t_f14)), (bt 15, .inl (cI, 7, .inl t_f15)), (bt 16, .inl (cI, 7, .inl t_f16)), (bt 17, .inl (cI, 56, .inl t_f17)), (b 5, oX6 bs y16 z17), (bs 0, .inl (cI, 287, .inl g18)), (bs 1, .inl (cI, 7, .inl g19)), (bs 2, .inl (cI, 7, .inl g20)), (bs 3, .inl (cJ, 7, .inr (.inl g21))), (bs 4, .inl (cI, 7, .inl g22)), (bs 5, .inl (cI, 6, .inl g23)), (bs 6, .inl (cI, 78, .inl g24)), (bs 7, .inl (cJ, 13, .inr (.inl g25))), (bs 8, .inl (cJ, 13, .inr (.inl g26))), (bs 9, .inl (cJ, 13, .inr (.inl g27))), (b 4, oX6 bn n_field n_houses), (bn 8, .inl (cJ, 13, .inr (.inl n_f8))), (bn 9, .inl (cJ, 13, .inr (.inl n_f9))), (b 3, oX7 z0 o_ruleo40 o_walkerso41 v51 o_widowo43 o_faceso44 o_turno45), (b 1, oX0 bt t_lines t_span t_rule t_odds t_wide t_high t_creeks t_houses t_widows t_acts), (bt 10, .inl (cI, 12, .inl t_f10)), (bt 18, .inl (cI, 30, .inl t_f18))] := hD
          refine lv_aload_n hx hb dX9_ford_82 rfl (lv_at hl 3 rfl) ?_
          refine va_get (D := G) (ci := 9) (v := .ref (b 5)) (C := RX9) (T := TX9) (N := 11) hx hb hts iG_X9 hown hK hP 0 rfl rfl 5 (by decide) (hts _ w_356) (fun _ h9 => h9) rfl dX9_ford_83 ?_
          refine lv_aload_n hx hb dX9_ford_86 rfl (lv_at hl 3 rfl) ?_
          refine va_get (D := G) (ci := 9) (v := .ref (b 1)) (C := RX9) (T := TX9) (N := 11) hx hb hts iG_X9 hown hK hP 0 rfl rfl 1 (by decide) (hts _ w_352) (fun _ h9 => h9) rfl dX9_ford_87 ?_
          refine lv_aload_n hx hb dX9_ford_90 rfl (lv_at hl 3 rfl) ?_
          refine va_get (D := G) (ci := 9) (v := .ref (b 3)) (C := RX9) (T := TX9) (N := 11) hx hb hts iG_X9 hown hK hP 0 rfl rfl 3 (by decide) (hts _ w_354) (fun _ h9 => h9) rfl dX9_ford_91 ?_
          refine k_v (wc := [(b 5, oX6 bs y16 z17), (bs 0, .inl (cI, 287, .inl g18)), (bs 1, .inl (cI, 7, .inl g19)), (bs 2, .inl (cI, 7, .inl g20)), (bs 3, .inl (cJ, 7, .inr (.inl g21))), (bs 4, .inl (cI, 7, .inl g22)), (bs 5, .inl (cI, 6, .inl g23)), (bs 6, .inl (cI, 78, .inl g24)), (bs 7, .inl (cJ, 13, .inr (.inl g25))), (bs 8, .inl (cJ, 13, .inr (.inl g26))), (bs 9, .inl (cJ, 13, .inr (.inl g27))), (b 1, oX0 bt t_lines t_span t_rule t_odds t_wide t_high t_creeks t_houses t_widows t_acts), (bt 11, .inl (cI, 6, .inl t_f11)), (bt 12, .inl (cI, 7, .inl t_f12)), (bt 13, .inl (cI, 7, .inl t_f13)), (bt 14, .inl (cI, 7, .inl t_f14)), (bt 15, .inl (cI, 7, .inl t_f15)), (bt 16, .inl (cI, 7, .inl t_f16)), (bt 17, .inl (cI, 56, .inl t_f17)), (b 3, oX7 z0 o_ruleo40 o_walkerso41 v51 o_widowo43 o_faceso44 o_turno45)]) (wr := [(h0, oX9 b), (b 4, oX6 bn n_field n_houses), (bn 8, .inl (cJ, 13, .inr (.inl n_f8))), (bn 9, .inl (cJ, 13, .inr (.inl n_f9))), (bt 10, .inl (cI, 12, .inl t_f10)), (bt 18, .inl (cI, 30, .inl t_f18))]) hP hD hS hA [8, 9, 10, 11, 12, 13, 14, 15, 16, 17, 18, 23, 1, 2, 3, 4, 5, 6, 7, 22] [0, 19, 20, 21, 24, 25] rfl rfl rfl (by decide) (va_runVN (As := [.ref (b 1), .ref (b 3)]) (rest := []) ⟨hx, hb, hml, hown, hts⟩ (f_X6_tell l G cI cJ cZ cB cQ _ (b 5) (b 1) (b 3) bs y16 z17 g18 g19 g20 g21 g22 g23 g24 g25 g26 g27 bt t_lines t_span t_rule t_odds t_wide t_high t_creeks t_houses t_widows t_acts t_f11 t_f12 t_f13 t_f14 t_f15 t_f16 t_f17 o_ruleo40 o_walkerso41 v51 o_widowo43 o_faceso44 o_turno45 k31 k32 k33 hl_t_span hh_t_span hl_t_rule hh_t_rule hl_t_odds hh_t_odds hl_t_wide hh_t_wide hl_t_high hh_t_high (by omega) hh_t_creeks hl_t_houses hh_t_houses hl_t_widows hh_t_widows hl_t_acts hh_t_acts ha_t_f14 ha_t_f16) ⟨va_cnB (host := "WidowRoads") 2 hts (gW w_585) rfl rfl rfl (nz_nw hZ nw_582 rfl) (hts _ w_6) hd_X6_tell ⟨Nat.le_of_ble_eq_true rfl, Nat.le_of_ble_eq_true rfl⟩, (hts _ w_584), (hts _ wp_24)⟩ (mV hK hZ hP hD [8, 9, 10, 11, 12, 13, 14, 15, 16, 17, 18, 23, 1, 2, 3, 4, 5, 6, 7, 22] rfl rfl [.ref (b 1), .ref (b 3)] 8 6 rfl rfl) rfl rfl hl.1 rfl (lv_room (Nat.le_of_ble_eq_true rfl)) dX9_ford_94 ⟨Nat.le_of_ble_eq_true rfl, Nat.le_of_ble_eq_true rfl⟩) (fun u53 H locs hw54 hP hD hS => ?_)
          obtain ⟨o_fieldo55, o_houseso56, o_f0o57, o_f1o58, o_f2o59, o_f3o60, o_f4o61, o_f5o62, o_f6o63, o_f7o64, o_f8o65, o_f9o66⟩ := u53
          try dsimp only at hw54
          have hP : va_P G vwCl [(h0, oX9 b), (b 4, oX6 bn n_field n_houses), (bn 8, .inl (cJ, 13, .inr (.inl n_f8))), (bn 9, .inl (cJ, 13, .inr (.inl n_f9))), (bt 10, .inl (cI, 12, .inl t_f10)), (bt 18, .inl (cI, 30, .inl t_f18)), (b 5, oX6 bs o_fieldo55 o_houseso56), (bs 0, .inl (cI, 287, .inl o_f0o57)), (bs 1, .inl (cI, 7, .inl o_f1o58)), (bs 2, .inl (cI, 7, .inl o_f2o59)), (bs 3, .inl (cJ, 7, .inr (.inl o_f3o60))), (bs 4, .inl (cI, 7, .inl o_f4o61)), (bs 5, .inl (cI, 6, .inl o_f5o62)), (bs 6, .inl (cI, 78, .inl o_f6o63)), (bs 7, .inl (cJ, 13, .inr (.inl o_f7o64))), (bs 8, .inl (cJ, 13, .inr (.inl o_f8o65))), (bs 9, .inl (cJ, 13, .inr (.inl o_f9o66))), (b 1, oX0 bt t_lines t_span t_rule t_odds t_wide t_high t_creeks t_houses t_widows t_acts), (bt 11, .inl (cI, 6, .inl t_f11)), (bt 12, .inl (cI, 7, .inl t_f12)), (bt 13, .inl (cI, 7, .inl t_f13)), (bt 14, .inl (cI, 7, .inl t_f14)), (bt 15, .inl (cI, 7, .inl t_f15)), (bt 16, .inl (cI, 7, .inl t_f16)), (bt 17, .inl (cI, 56, .inl t_f17)), (b 3, oX7 z0 o_ruleo40 o_walkerso41 v51 o_widowo43 o_faceso44 o_turno45)] H := hP
          have hD : va_D A [(h0, oX9 b), (b 4, oX6 bn n_field n_houses), (bn 8, .inl (cJ, 13, .inr (.inl n_f8))), (bn 9, .inl (cJ, 13, .inr (.inl n_f9))), (bt 10, .inl (cI, 12, .inl t_f10)), (bt 18, .inl (cI, 30, .inl t_f18)), (b 5, oX6 bs o_fieldo55 o_houseso56), (bs 0, .inl (cI, 287, .inl o_f0o57)), (bs 1, .inl (cI, 7, .inl o_f1o58)), (bs 2, .inl (cI, 7, .inl o_f2o59)), (bs 3, .inl (cJ, 7, .inr (.inl o_f3o60))), (bs 4, .inl (cI, 7, .inl o_f4o61)), (bs 5, .inl (cI, 6, .inl o_f5o62)), (bs 6, .inl (cI, 78, .inl o_f6o63)), (bs 7, .inl (cJ, 13, .inr (.inl o_f7o64))), (bs 8, .inl (cJ, 13, .inr (.inl o_f8o65))), (bs 9, .inl (cJ, 13, .inr (.inl o_f9o66))), (b 1, oX0 bt t_lines t_span t_rule t_odds t_wide t_high t_creeks t_houses t_widows t_acts), (bt 11, .inl (cI, 6, .inl t_f11)), (bt 12, .inl (cI, 7, .inl t_f12)), (bt 13, .inl (cI, 7, .inl t_f13)), (bt 14, .inl (cI, 7, .inl t_f14)), (bt 15, .inl (cI, 7, .inl t_f15)), (bt 16, .inl (cI, 7, .inl t_f16)), (bt 17, .inl (cI, 56, .inl t_f17)), (b 3, oX7 z0 o_ruleo40 o_walkerso41 v51 o_widowo43 o_faceso44 o_turno45)] := hD
          obtain ⟨w67, w68, w69⟩ : 0 ≤ o_houseso56.toInt ∧ o_houseso56.toInt ≤ 6 ∧ ai o_f1o58 7 (-1) 40 := hw54
          refine lv_aload_n hx hb dX9_ford_97 rfl (lv_at hl 3 rfl) ?_
          refine va_get (D := G) (ci := 9) (v := .ref (b 5)) (C := RX9) (T := TX9) (N := 11) hx hb hts iG_X9 hown hK hP 0 rfl rfl 5 (by decide) (hts _ w_356) (fun _ h9 => h9) rfl dX9_ford_98 ?_
          refine lv_aload_n hx hb dX9_ford_101 rfl (lv_at hl 3 rfl) ?_
          refine va_get (D := G) (ci := 9) (v := .ref (b 1)) (C := RX9) (T := TX9) (N := 11) hx hb hts iG_X9 hown hK hP 0 rfl rfl 1 (by decide) (hts _ w_352) (fun _ h9 => h9) rfl dX9_ford_102 ?_
          refine va_getN (D := G) (ci := 0) (v := .int t_span) (C := RX0) (T := TX0) (N := 19) hx hb hts iG_X0 hown hK hP 17 rfl rfl 1 (by decide) (nz_use hZ nw_62 rfl) (fun _ h9 => h9) rfl dX9_ford_105 ?_
          refine k_i (wc := [(b 5, oX6 bs o_fieldo55 o_houseso56), (bs 8, .inl (cJ, 13, .inr (.inl o_f8o65))), (bs 9, .inl (cJ, 13, .inr (.inl o_f9o66)))]) (wr := [(h0, oX9 b), (b 4, oX6 bn n_field n_houses), (bn 8, .inl (cJ, 13, .inr (.inl n_f8))), (bn 9, .inl (cJ, 13, .inr (.inl n_f9))), (bt 10, .inl (cI, 12, .inl t_f10)), (bt 18, .inl (cI, 30, .inl t_f18)), (bs 0, .inl (cI, 287, .inl o_f0o57)), (bs 1, .inl (cI, 7, .inl o_f1o58)), (bs 2, .inl (cI, 7, .inl o_f2o59)), (bs 3, .inl (cJ, 7, .inr (.inl o_f3o60))), (bs 4, .inl (cI, 7, .inl o_f4o61)), (bs 5, .inl (cI, 6, .inl o_f5o62)), (bs 6, .inl (cI, 78, .inl o_f6o63)), (bs 7, .inl (cJ, 13, .inr (.inl o_f7o64))), (b 1, oX0 bt t_lines t_span t_rule t_odds t_wide t_high t_creeks t_houses t_widows t_acts), (bt 11, .inl (cI, 6, .inl t_f11)), (bt 12, .inl (cI, 7, .inl t_f12)), (bt 13, .inl (cI, 7, .inl t_f13)), (bt 14, .inl (cI, 7, .inl t_f14)), (bt 15, .inl (cI, 7, .inl t_f15)), (bt 16, .inl (cI, 7, .inl t_f16)), (bt 17, .inl (cI, 56, .inl t_f17)), (b 3, oX7 z0 o_ruleo40 o_walkerso41 v51 o_widowo43 o_faceso44 o_turno45)]) hP hD hS hA [6, 15, 16] [0, 1, 2, 3, 4, 5, 7, 8, 9, 10, 11, 12, 13, 14, 17, 18, 19, 20, 21, 22, 23, 24, 25] rfl rfl rfl (by decide) (va_runVN (As := [.int t_span]) (rest := []) ⟨hx, hb, hml, hown, hts⟩ (f_X6_pegsIn l G cI cJ cZ cB cQ _ (b 5) t_span bs o_fieldo55 o_houseso56 o_f8o65 o_f9o66 hl_t_span hh_t_span w67 w68) ⟨va_cnB (host := "WidowRoads") 1 hts (gW w_772) rfl rfl rfl (nz_nw hZ nw_769 rfl) (hts _ w_6) hd_X6_pegsIn ⟨Nat.le_of_ble_eq_true rfl, Nat.le_of_ble_eq_true rfl⟩, (hts _ w_771), (hts _ wp_44)⟩ (mV hK hZ hP hD [6, 15, 16] rfl rfl [.int t_span] 6 6 rfl rfl) rfl rfl hl.1 rfl (lv_room (Nat.le_of_ble_eq_true rfl)) dX9_ford_108 ⟨Nat.le_of_ble_eq_true rfl, Nat.le_of_ble_eq_true rfl⟩) (fun r70 u71 H locs hw72 hP hD hS => ?_)
          try dsimp only at hw72
          have hP : va_P G vwCl [(h0, oX9 b), (b 4, oX6 bn n_field n_houses), (bn 8, .inl (cJ, 13, .inr (.inl n_f8))), (bn 9, .inl (cJ, 13, .inr (.inl n_f9))), (bt 10, .inl (cI, 12, .inl t_f10)), (bt 18, .inl (cI, 30, .inl t_f18)), (bs 0, .inl (cI, 287, .inl o_f0o57)), (bs 1, .inl (cI, 7, .inl o_f1o58)), (bs 2, .inl (cI, 7, .inl o_f2o59)), (bs 3, .inl (cJ, 7, .inr (.inl o_f3o60))), (bs 4, .inl (cI, 7, .inl o_f4o61)), (bs 5, .inl (cI, 6, .inl o_f5o62)), (bs 6, .inl (cI, 78, .inl o_f6o63)), (bs 7, .inl (cJ, 13, .inr (.inl o_f7o64))), (b 1, oX0 bt t_lines t_span t_rule t_odds t_wide t_high t_creeks t_houses t_widows t_acts), (bt 11, .inl (cI, 6, .inl t_f11)), (bt 12, .inl (cI, 7, .inl t_f12)), (bt 13, .inl (cI, 7, .inl t_f13)), (bt 14, .inl (cI, 7, .inl t_f14)), (bt 15, .inl (cI, 7, .inl t_f15)), (bt 16, .inl (cI, 7, .inl t_f16)), (bt 17, .inl (cI, 56, .inl t_f17)), (b 3, oX7 z0 o_ruleo40 o_walkerso41 v51 o_widowo43 o_faceso44 o_turno45), (b 5, oX6 bs o_fieldo55 o_houseso56), (bs 8, .inl (cJ, 13, .inr (.inl o_f8o65))), (bs 9, .inl (cJ, 13, .inr (.inl o_f9o66)))] H := hP
          have hD : va_D A [(h0, oX9 b), (b 4, oX6 bn n_field n_houses), (bn 8, .inl (cJ, 13, .inr (.inl n_f8))), (bn 9, .inl (cJ, 13, .inr (.inl n_f9))), (bt 10, .inl (cI, 12, .inl t_f10)), (bt 18, .inl (cI, 30, .inl t_f18)), (bs 0, .inl (cI, 287, .inl o_f0o57)), (bs 1, .inl (cI, 7, .inl o_f1o58)), (bs 2, .inl (cI, 7, .inl o_f2o59)), (bs 3, .inl (cJ, 7, .inr (.inl o_f3o60))), (bs 4, .inl (cI, 7, .inl o_f4o61)), (bs 5, .inl (cI, 6, .inl o_f5o62)), (bs 6, .inl (cI, 78, .inl o_f6o63)), (bs 7, .inl (cJ, 13, .inr (.inl o_f7o64))), (b 1, oX0 bt t_lines t_span t_rule t_odds t_wide t_high t_creeks t_houses t_widows t_acts), (bt 11, .inl (cI, 6, .inl t_f11)), (bt 12, .inl (cI, 7, .inl t_f12)), (bt 13, .inl (cI, 7, .inl t_f13)), (bt 14, .inl (cI, 7, .inl t_f14)), (bt 15, .inl (cI, 7, .inl t_f15)), (bt 16, .inl (cI, 7, .inl t_f16)), (bt 17, .inl (cI, 56, .inl t_f17)), (b 3, oX7 z0 o_ruleo40 o_walkerso41 v51 o_widowo43 o_faceso44 o_turno45), (b 5, oX6 bs o_fieldo55 o_houseso56), (bs 8, .inl (cJ, 13, .inr (.inl o_f8o65))), (bs 9, .inl (cJ, 13, .inr (.inl o_f9o66)))] := hD
          refine lv_iload_n hx hb dX9_ford_111 rfl (lv_at hl 2 rfl) ?_
          refine lv_icmp_le (tgt := 132) hx hb dX9_ford_112 (by decide) (fun c73 => ?_) (fun c73 => ?_)
          · have c73 := i_le rfl rfl c73
            obtain ⟨v74, ev74⟩ : ∃ y : Int32, y = x9 + 1 := ⟨_, rfl⟩
            have tv74 : v74.toInt = x9.toInt + 1 := ti_add rfl ki_1 ev74 (by omega) (by omega)
            refine lv_iinc (v := v74) (lv' := [(3, .int v74), (2, .int x8), (1, .int x7), (0, .ref h0)]) hx hb dX9_ford_132 hl (k := 0) rfl (by rw [ev74]; rfl) (by decide) rfl (fun ls hl => ?_)
            refine lv_goto (tgt := 32) hx hb dX9_ford_135 (by decide) ?_
            exact ih34 x7 x8 v74 o_ruleo40 o_walkerso41 v51 o_widowo43 o_faceso44 o_turno45 o_fieldo55 o_houseso56 o_f0o57 o_f1o58 o_f2o59 o_f3o60 o_f4o61 o_f5o62 o_f6o63 o_f7o64 o_f8o65 o_f9o66 k28 (by omega) (by omega) w67 w68 w69 (by omega) _ _ (hP.sub [0, 14, 4, 15, 16, 17, 18, 19, 20, 21, 5, 22, 23, 6, 7, 8, 9, 10, 11, 12, 13, 24, 25, 1, 2, 3] rfl) (hD.sub [0, 14, 4, 15, 16, 17, 18, 19, 20, 21, 5, 22, 23, 6, 7, 8, 9, 10, 11, 12, 13, 24, 25, 1, 2, 3] rfl rfl) hS ls (lv_sub hl [0, 1, 2, 3] rfl)
          · have c73 := i_nle rfl rfl c73
            refine lv_aload_n hx hb dX9_ford_115 rfl (lv_at hl 3 rfl) ?_
            refine va_get (D := G) (ci := 9) (v := .ref (b 5)) (C := RX9) (T := TX9) (N := 11) hx hb hts iG_X9 hown hK hP 0 rfl rfl 5 (by decide) (hts _ w_356) (fun _ h9 => h9) rfl dX9_ford_116 ?_
            refine lv_aload_n hx hb dX9_ford_119 rfl (lv_at hl 3 rfl) ?_
            refine va_get (D := G) (ci := 9) (v := .ref (b 1)) (C := RX9) (T := TX9) (N := 11) hx hb hts iG_X9 hown hK hP 0 rfl rfl 1 (by decide) (hts _ w_352) (fun _ h9 => h9) rfl dX9_ford_120 ?_
            refine va_getN (D := G) (ci := 0) (v := .int t_span) (C := RX0) (T := TX0) (N := 19) hx hb hts iG_X0 hown hK hP 14 rfl rfl 1 (by decide) (nz_use hZ nw_62 rfl) (fun _ h9 => h9) rfl dX9_ford_123 ?_
            refine k_i (wc := [(b 5, oX6 bs o_fieldo55 o_houseso56), (bs 8, .inl (cJ, 13, .inr (.inl o_f8o65))), (bs 9, .inl (cJ, 13, .inr (.inl o_f9o66)))]) (wr := [(h0, oX9 b), (b 4, oX6 bn n_field n_houses), (bn 8, .inl (cJ, 13, .inr (.inl n_f8))), (bn 9, .inl (cJ, 13, .inr (.inl n_f9))), (bt 10, .inl (cI, 12, .inl t_f10)), (bt 18, .inl (cI, 30, .inl t_f18)), (bs 0, .inl (cI, 287, .inl o_f0o57)), (bs 1, .inl (cI, 7, .inl o_f1o58)), (bs 2, .inl (cI, 7, .inl o_f2o59)), (bs 3, .inl (cJ, 7, .inr (.inl o_f3o60))), (bs 4, .inl (cI, 7, .inl o_f4o61)), (bs 5, .inl (cI, 6, .inl o_f5o62)), (bs 6, .inl (cI, 78, .inl o_f6o63)), (bs 7, .inl (cJ, 13, .inr (.inl o_f7o64))), (b 1, oX0 bt t_lines t_span t_rule t_odds t_wide t_high t_creeks t_houses t_widows t_acts), (bt 11, .inl (cI, 6, .inl t_f11)), (bt 12, .inl (cI, 7, .inl t_f12)), (bt 13, .inl (cI, 7, .inl t_f13)), (bt 14, .inl (cI, 7, .inl t_f14)), (bt 15, .inl (cI, 7, .inl t_f15)), (bt 16, .inl (cI, 7, .inl t_f16)), (bt 17, .inl (cI, 56, .inl t_f17)), (b 3, oX7 z0 o_ruleo40 o_walkerso41 v51 o_widowo43 o_faceso44 o_turno45)]) hP hD hS hA [23, 24, 25] [0, 1, 2, 3, 4, 5, 6, 7, 8, 9, 10, 11, 12, 13, 14, 15, 16, 17, 18, 19, 20, 21, 22] rfl rfl rfl (by decide) (va_runVN (As := [.int t_span]) (rest := []) ⟨hx, hb, hml, hown, hts⟩ (f_X6_pegsIn l G cI cJ cZ cB cQ _ (b 5) t_span bs o_fieldo55 o_houseso56 o_f8o65 o_f9o66 hl_t_span hh_t_span w67 w68) ⟨va_cnB (host := "WidowRoads") 1 hts (gW w_772) rfl rfl rfl (nz_nw hZ nw_769 rfl) (hts _ w_6) hd_X6_pegsIn ⟨Nat.le_of_ble_eq_true rfl, Nat.le_of_ble_eq_true rfl⟩, (hts _ w_771), (hts _ wp_44)⟩ (mV hK hZ hP hD [23, 24, 25] rfl rfl [.int t_span] 23 6 rfl rfl) rfl rfl hl.1 rfl (lv_room (Nat.le_of_ble_eq_true rfl)) dX9_ford_126 ⟨Nat.le_of_ble_eq_true rfl, Nat.le_of_ble_eq_true rfl⟩) (fun r75 u76 H locs hw77 hP hD hS => ?_)
            try dsimp only at hw77
            have hP : va_P G vwCl [(h0, oX9 b), (b 4, oX6 bn n_field n_houses), (bn 8, .inl (cJ, 13, .inr (.inl n_f8))), (bn 9, .inl (cJ, 13, .inr (.inl n_f9))), (bt 10, .inl (cI, 12, .inl t_f10)), (bt 18, .inl (cI, 30, .inl t_f18)), (bs 0, .inl (cI, 287, .inl o_f0o57)), (bs 1, .inl (cI, 7, .inl o_f1o58)), (bs 2, .inl (cI, 7, .inl o_f2o59)), (bs 3, .inl (cJ, 7, .inr (.inl o_f3o60))), (bs 4, .inl (cI, 7, .inl o_f4o61)), (bs 5, .inl (cI, 6, .inl o_f5o62)), (bs 6, .inl (cI, 78, .inl o_f6o63)), (bs 7, .inl (cJ, 13, .inr (.inl o_f7o64))), (b 1, oX0 bt t_lines t_span t_rule t_odds t_wide t_high t_creeks t_houses t_widows t_acts), (bt 11, .inl (cI, 6, .inl t_f11)), (bt 12, .inl (cI, 7, .inl t_f12)), (bt 13, .inl (cI, 7, .inl t_f13)), (bt 14, .inl (cI, 7, .inl t_f14)), (bt 15, .inl (cI, 7, .inl t_f15)), (bt 16, .inl (cI, 7, .inl t_f16)), (bt 17, .inl (cI, 56, .inl t_f17)), (b 3, oX7 z0 o_ruleo40 o_walkerso41 v51 o_widowo43 o_faceso44 o_turno45), (b 5, oX6 bs o_fieldo55 o_houseso56), (bs 8, .inl (cJ, 13, .inr (.inl o_f8o65))), (bs 9, .inl (cJ, 13, .inr (.inl o_f9o66)))] H := hP
            have hD : va_D A [(h0, oX9 b), (b 4, oX6 bn n_field n_houses), (bn 8, .inl (cJ, 13, .inr (.inl n_f8))), (bn 9, .inl (cJ, 13, .inr (.inl n_f9))), (bt 10, .inl (cI, 12, .inl t_f10)), (bt 18, .inl (cI, 30, .inl t_f18)), (bs 0, .inl (cI, 287, .inl o_f0o57)), (bs 1, .inl (cI, 7, .inl o_f1o58)), (bs 2, .inl (cI, 7, .inl o_f2o59)), (bs 3, .inl (cJ, 7, .inr (.inl o_f3o60))), (bs 4, .inl (cI, 7, .inl o_f4o61)), (bs 5, .inl (cI, 6, .inl o_f5o62)), (bs 6, .inl (cI, 78, .inl o_f6o63)), (bs 7, .inl (cJ, 13, .inr (.inl o_f7o64))), (b 1, oX0 bt t_lines t_span t_rule t_odds t_wide t_high t_creeks t_houses t_widows t_acts), (bt 11, .inl (cI, 6, .inl t_f11)), (bt 12, .inl (cI, 7, .inl t_f12)), (bt 13, .inl (cI, 7, .inl t_f13)), (bt 14, .inl (cI, 7, .inl t_f14)), (bt 15, .inl (cI, 7, .inl t_f15)), (bt 16, .inl (cI, 7, .inl t_f16)), (bt 17, .inl (cI, 56, .inl t_f17)), (b 3, oX7 z0 o_ruleo40 o_walkerso41 v51 o_widowo43 o_faceso44 o_turno45), (b 5, oX6 bs o_fieldo55 o_houseso56), (bs 8, .inl (cJ, 13, .inr (.inl o_f8o65))), (bs 9, .inl (cJ, 13, .inr (.inl o_f9o66)))] := hD
            refine lv_istore_n (lv' := [(1, .int r75), (3, .int x9), (2, .int x8), (0, .ref h0)]) hx hb dX9_ford_129 rfl hl (by decide) rfl (fun ls hl => ?_)
            refine lv_iload_n hx hb dX9_ford_130 rfl (lv_at hl 1 rfl) ?_
            refine lv_istore_n (lv' := [(2, .int x9), (1, .int r75), (3, .int x9), (0, .ref h0)]) hx hb dX9_ford_131 rfl hl (by decide) rfl (fun ls hl => ?_)
            obtain ⟨v78, ev78⟩ : ∃ y : Int32, y = x9 + 1 := ⟨_, rfl⟩
            have tv78 : v78.toInt = x9.toInt + 1 := ti_add rfl ki_1 ev78 (by omega) (by omega)
            refine lv_iinc (v := v78) (lv' := [(3, .int v78), (2, .int x9), (1, .int r75), (0, .ref h0)]) hx hb dX9_ford_132 hl (k := 2) rfl (by rw [ev78]; rfl) (by decide) rfl (fun ls hl => ?_)
            refine lv_goto (tgt := 32) hx hb dX9_ford_135 (by decide) ?_
            exact ih34 r75 x9 v78 o_ruleo40 o_walkerso41 v51 o_widowo43 o_faceso44 o_turno45 o_fieldo55 o_houseso56 o_f0o57 o_f1o58 o_f2o59 o_f3o60 o_f4o61 o_f5o62 o_f6o63 o_f7o64 o_f8o65 o_f9o66 (by omega) (by omega) (by omega) w67 w68 w69 (by omega) _ _ (hP.sub [0, 14, 4, 15, 16, 17, 18, 19, 20, 21, 5, 22, 23, 6, 7, 8, 9, 10, 11, 12, 13, 24, 25, 1, 2, 3] rfl) (hD.sub [0, 14, 4, 15, 16, 17, 18, 19, 20, 21, 5, 22, 23, 6, 7, 8, 9, 10, 11, 12, 13, 24, 25, 1, 2, 3] rfl rfl) hS ls (lv_sub hl [0, 1, 2, 3] rfl)
    exact lp5 13 r2 (-1) 0 u_rule u_walkers u_creeks u_widow u_faces u_turn s_field s_houses s_f0 s_f1 s_f2 s_f3 s_f4 s_f5 s_f6 s_f7 s_f8 s_f9 (by rw [ki_m1]; decide) (by rw [ki_0]; decide) (by rw [ki_0]; decide) hl_s_houses hh_s_houses ha_s_f1 (by rw [ki_0]; decide) _ _ hP hD hS ls (lv_sub hl [0, 1, 2, 3] rfl)
  · have c1 := i_eq rfl ki_0 c1
    refine lv_bipush (v := (-2)) hx hb dX9_ford_10 (by decide) ?_
    exact hret _ _ _ _ (-2) (u_rule, u_walkers, u_creeks, u_widow, u_faces, u_turn, s_field, s_houses, s_f0, s_f1, s_f2, s_f3, s_f4, s_f5, s_f6, s_f7, s_f8, s_f9) hP hD hS dX9_ford_12 (show 0 ≤ s_houses.toInt ∧ s_houses.toInt ≤ 6 ∧ ai s_f1 7 (-1) 40 from ⟨hl_s_houses, hh_s_houses, ha_s_f1⟩)
