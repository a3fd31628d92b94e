theorem wp_12 : Cond.selects "WidowRoads$Colony" yX0_creekBits yX0_creekBits ∈ GW := GW_p 12 (by decide +kernel) rfl
theorem wp_23 : Cond.selects "WidowRoads$Colony" yX0_walkerBits yX0_walkerBits ∈ GW := GW_p 23 (by decide +kernel) rfl
theorem w_4 : Jvm.Cond.initialized "WidowRoads$Colony" ∈ GW := GW_t 4 (by decide +kernel) rfl
theorem w_17 : Jvm.Cond.initialized "java/lang/System" ∈ GW := GW_t 17 (by decide +kernel) rfl
theorem w_55 : Jvm.Cond.fieldLink "WidowRoads$Colony" (39 : Nat) "WidowRoads$Colony" "lines" "I" ∈ GW := GW_t 55 (by decide +kernel) rfl
theorem w_58 : Jvm.Cond.fieldLink "WidowRoads$Colony" (43 : Nat) "WidowRoads$Colony" "span" "I" ∈ GW := GW_t 58 (by decide +kernel) rfl
theorem w_64 : Jvm.Cond.fieldLink "WidowRoads$Colony" (46 : Nat) "WidowRoads$Colony" "rule" "I" ∈ GW := GW_t 64 (by decide +kernel) rfl
theorem w_67 : Jvm.Cond.fieldLink "WidowRoads$Colony" (49 : Nat) "WidowRoads$Colony" "odds" "I" ∈ GW := GW_t 67 (by decide +kernel) rfl
theorem w_71 : Jvm.Cond.fieldLink "WidowRoads$Colony" (52 : Nat) "WidowRoads$Colony" "wide" "I" ∈ GW := GW_t 71 (by decide +kernel) rfl
theorem w_74 : Jvm.Cond.fieldLink "WidowRoads$Colony" (55 : Nat) "WidowRoads$Colony" "high" "I" ∈ GW := GW_t 74 (by decide +kernel) rfl
theorem w_77 : Jvm.Cond.fieldLink "WidowRoads$Colony" (58 : Nat) "WidowRoads$Colony" "creeks" "I" ∈ GW := GW_t 77 (by decide +kernel) rfl
theorem w_80 : Jvm.Cond.fieldLink "WidowRoads$Colony" (61 : Nat) "WidowRoads$Colony" "houses" "I" ∈ GW := GW_t 80 (by decide +kernel) rfl
theorem w_86 : Jvm.Cond.fieldLink "WidowRoads$Colony" (64 : Nat) "WidowRoads$Colony" "widows" "I" ∈ GW := GW_t 86 (by decide +kernel) rfl
theorem w_89 : Jvm.Cond.fieldLink "WidowRoads$Colony" (67 : Nat) "WidowRoads$Colony" "acts" "I" ∈ GW := GW_t 89 (by decide +kernel) rfl
theorem w_91 : Jvm.Cond.fieldLink "WidowRoads$Colony" (9 : Nat) "WidowRoads$Colony" "creekSpots" "[I" ∈ GW := GW_t 91 (by decide +kernel) rfl
theorem w_94 : Jvm.Cond.fieldLink "WidowRoads$Colony" (15 : Nat) "WidowRoads$Colony" "houseSpots" "[I" ∈ GW := GW_t 94 (by decide +kernel) rfl
theorem w_97 : Jvm.Cond.fieldLink "WidowRoads$Colony" (18 : Nat) "WidowRoads$Colony" "starts" "[I" ∈ GW := GW_t 97 (by decide +kernel) rfl
theorem w_101 : Jvm.Cond.fieldLink "WidowRoads$Colony" (21 : Nat) "WidowRoads$Colony" "faces" "[I" ∈ GW := GW_t 101 (by decide +kernel) rfl
theorem w_105 : Jvm.Cond.fieldLink "WidowRoads$Colony" (24 : Nat) "WidowRoads$Colony" "paces" "[I" ∈ GW := GW_t 105 (by decide +kernel) rfl
theorem w_109 : Jvm.Cond.fieldLink "WidowRoads$Colony" (27 : Nat) "WidowRoads$Colony" "years" "[I" ∈ GW := GW_t 109 (by decide +kernel) rfl
theorem w_113 : Jvm.Cond.fieldLink "WidowRoads$Colony" (30 : Nat) "WidowRoads$Colony" "turns" "[I" ∈ GW := GW_t 113 (by decide +kernel) rfl
theorem w_117 : Jvm.Cond.fieldLink "WidowRoads$Colony" (33 : Nat) "WidowRoads$Colony" "griefs" "[I" ∈ GW := GW_t 117 (by decide +kernel) rfl
theorem w_121 : Jvm.Cond.fieldLink "WidowRoads$Colony" (36 : Nat) "WidowRoads$Colony" "actsDone" "[I" ∈ GW := GW_t 121 (by decide +kernel) rfl
theorem w_198 : Jvm.Cond.fieldLink "WidowRoads$Supposal" (15 : Nat) "WidowRoads$Supposal" "rule" "I" ∈ GW := GW_t 198 (by decide +kernel) rfl
theorem w_201 : Jvm.Cond.fieldLink "WidowRoads$Supposal" (22 : Nat) "WidowRoads$Supposal" "walkers" "I" ∈ GW := GW_t 201 (by decide +kernel) rfl
theorem w_205 : Jvm.Cond.fieldLink "WidowRoads$Supposal" (29 : Nat) "WidowRoads$Supposal" "creeks" "J" ∈ GW := GW_t 205 (by decide +kernel) rfl
theorem w_208 : Jvm.Cond.fieldLink "WidowRoads$Supposal" (33 : Nat) "WidowRoads$Supposal" "widow" "I" ∈ GW := GW_t 208 (by decide +kernel) rfl
theorem w_210 : Jvm.Cond.fieldLink "WidowRoads$Supposal" (36 : Nat) "WidowRoads$Supposal" "faces" "I" ∈ GW := GW_t 210 (by decide +kernel) rfl
theorem w_212 : Jvm.Cond.fieldLink "WidowRoads$Supposal" (39 : Nat) "WidowRoads$Supposal" "turn" "I" ∈ GW := GW_t 212 (by decide +kernel) rfl
theorem w_515 : Jvm.Cond.instanceMethod ({ cls := "WidowRoads$Colony", name := "creekBits", desc := "()J" } : Jvm.MethodName) ∈ GW := GW_t 515 (by decide +kernel) rfl
theorem w_516 : Jvm.Cond.code ({ cls := "WidowRoads$Colony", name := "creekBits", desc := "()J" } : Jvm.MethodName) prog_2_method_9_code (4 : Nat) (Option.some Jvm.ClassFile.FieldType.long) ∈ GW := GW_t 516 (by decide +kernel) rfl
theorem w_520 : Jvm.Cond.constantLong "WidowRoads$Colony" (84 : Nat) (-1 : Int64) ∈ GW := GW_t 520 (by decide +kernel) rfl
theorem w_566 : Jvm.Cond.methodLink "WidowRoads$Colony" (70 : Nat) ({ cls := "java/lang/System", name := "arraycopy", desc := "(Ljava/lang/Object;ILjava/lang/Object;II)V" } : Jvm.MethodName) ∈ GW := GW_t 566 (by decide +kernel) rfl
theorem w_567 : Jvm.Cond.static ({ cls := "java/lang/System", name := "arraycopy", desc := "(Ljava/lang/Object;ILjava/lang/Object;II)V" } : Jvm.MethodName) ∈ GW := GW_t 567 (by decide +kernel) rfl
theorem w_568 : Jvm.Cond.native ({ cls := "java/lang/System", name := "arraycopy", desc := "(Ljava/lang/Object;ILjava/lang/Object;II)V" } : Jvm.MethodName) ∈ GW := GW_t 568 (by decide +kernel) rfl
theorem w_579 : Jvm.Cond.instanceMethod ({ cls := "WidowRoads$Colony", name := "walkerBits", desc := "()I" } : Jvm.MethodName) ∈ GW := GW_t 579 (by decide +kernel) rfl
theorem w_580 : Jvm.Cond.code ({ cls := "WidowRoads$Colony", name := "walkerBits", desc := "()I" } : Jvm.MethodName) prog_2_method_11_code (3 : Nat) (Option.some Jvm.ClassFile.FieldType.int) ∈ GW := GW_t 580 (by decide +kernel) rfl
theorem w_657 : Jvm.Cond.constantLong "WidowRoads$Colony" (76 : Nat) (10 : Int64) ∈ GW := GW_t 657 (by decide +kernel) rfl
theorem w_658 : Jvm.Cond.constantLong "WidowRoads$Colony" (78 : Nat) (8 : Int64) ∈ GW := GW_t 658 (by decide +kernel) rfl
theorem iG_X0 : ∀ w ∈ wsX00, w ∈ GW := GW_in [123, 125, 127, 129, 131, 133, 135, 137, 139, 141, 143, 145, 147, 149, 151, 153, 155, 157, 159] (by decide +kernel) (by decide +kernel)
theorem iG_X7 : ∀ w ∈ wsX70, w ∈ GW := GW_in [214, 216, 218, 220, 222, 224] (by decide +kernel) (by decide +kernel)
theorem nw_63 : Jvm.Cond.fieldLinkNest "WidowRoads$Supposal" (9 : Nat) "WidowRoads$Colony" "rule" "I" "WidowRoads" ∈ tables_1 := List.mem_of_getElem? (i := 63) (by decide +kernel)
theorem nw_102 : Jvm.Cond.fieldLinkNest "WidowRoads$Supposal" (42 : Nat) "WidowRoads$Colony" "faces" "[I" "WidowRoads" ∈ tables_1 := List.mem_of_getElem? (i := 102) (by decide +kernel)
theorem nw_114 : Jvm.Cond.fieldLinkNest "WidowRoads$Supposal" (45 : Nat) "WidowRoads$Colony" "turns" "[I" "WidowRoads" ∈ tables_1 := List.mem_of_getElem? (i := 114) (by decide +kernel)
theorem nw_118 : Jvm.Cond.fieldLinkNest "WidowRoads$Supposal" (48 : Nat) "WidowRoads$Colony" "griefs" "[I" "WidowRoads" ∈ tables_1 := List.mem_of_getElem? (i := 118) (by decide +kernel)
theorem nw_517 : Jvm.Cond.methodLinkNest "WidowRoads$Colony" (80 : Nat) ({ cls := "WidowRoads", name := "bit", desc := "(I)J" } : Jvm.MethodName) "WidowRoads" ∈ tables_1 := List.mem_of_getElem? (i := 517) (by decide +kernel)
theorem nw_577 : Jvm.Cond.methodLinkNest "WidowRoads$Supposal" (18 : Nat) ({ cls := "WidowRoads$Colony", name := "walkerBits", desc := "()I" } : Jvm.MethodName) "WidowRoads" ∈ tables_1 := List.mem_of_getElem? (i := 577) (by decide +kernel)
theorem nw_581 : Jvm.Cond.methodLinkNest "WidowRoads$Supposal" (25 : Nat) ({ cls := "WidowRoads$Colony", name := "creekBits", desc := "()J" } : Jvm.MethodName) "WidowRoads" ∈ tables_1 := List.mem_of_getElem? (i := 581) (by decide +kernel)
theorem hd_X0_creekBits : yX0_creekBits.cls ≠ "java/lang/invoke/MethodHandle" ∧ yX0_creekBits.cls ≠ "java/lang/invoke/VarHandle" ∧ (parseMethodDescriptor yX0_creekBits.desc).map (fun d => d.parameters.length) = some 0 := by decide +kernel
theorem hd_X0_walkerBits : yX0_walkerBits.cls ≠ "java/lang/invoke/MethodHandle" ∧ yX0_walkerBits.cls ≠ "java/lang/invoke/VarHandle" ∧ (parseMethodDescriptor yX0_walkerBits.desc).map (fun d => d.parameters.length) = some 0 := by decide +kernel
theorem ki_6 : (6 : Int32).toInt = 6 := by decide
theorem ki_8 : (8 : Int32).toInt = 8 := by decide
theorem ki_12 : (12 : Int32).toInt = 12 := by decide
theorem ki_30 : (30 : Int32).toInt = 30 := by decide
theorem ki_56 : (56 : Int32).toInt = 56 := by decide
theorem ki_64 : (64 : Int32).toInt = 64 := by decide
theorem kl_10 : (10 : Int64).toInt = 10 := by decide
theorem dX0_become_0 : decode cX0_become 0 = .ok (.aload_n 0, 1) := by decide +kernel
theorem dX0_become_1 : decode cX0_become 1 = .ok (.aload_n 1, 1) := by decide +kernel
theorem dX0_become_2 : decode cX0_become 2 = .ok (.getfield 39, 3) := by decide +kernel
theorem dX0_become_5 : decode cX0_become 5 = .ok (.putfield 39, 3) := by decide +kernel
theorem dX0_become_8 : decode cX0_become 8 = .ok (.aload_n 0, 1) := by decide +kernel
theorem dX0_become_9 : decode cX0_become 9 = .ok (.aload_n 1, 1) := by decide +kernel
theorem dX0_become_10 : decode cX0_become 10 = .ok (.getfield 43, 3) := by decide +kernel
theorem dX0_become_13 : decode cX0_become 13 = .ok (.putfield 43, 3) := by decide +kernel
theorem dX0_become_16 : decode cX0_become 16 = .ok (.aload_n 0, 1) := by decide +kernel
theorem dX0_become_17 : decode cX0_become 17 = .ok (.aload_n 1, 1) := by decide +kernel
theorem dX0_become_18 : decode cX0_become 18 = .ok (.getfield 46, 3) := by decide +kernel
theorem dX0_become_21 : decode cX0_become 21 = .ok (.putfield 46, 3) := by decide +kernel
theorem dX0_become_24 : decode cX0_become 24 = .ok (.aload_n 0, 1) := by decide +kernel
theorem dX0_become_25 : decode cX0_become 25 = .ok (.aload_n 1, 1) := by decide +kernel
theorem dX0_become_26 : decode cX0_become 26 = .ok (.getfield 49, 3) := by decide +kernel
theorem dX0_become_29 : decode cX0_become 29 = .ok (.putfield 49, 3) := by decide +kernel
theorem dX0_become_32 : decode cX0_become 32 = .ok (.aload_n 0, 1) := by decide +kernel
theorem dX0_become_33 : decode cX0_become 33 = .ok (.aload_n 1, 1) := by decide +kernel
theorem dX0_become_34 : decode cX0_become 34 = .ok (.getfield 52, 3) := by decide +kernel
theorem dX0_become_37 : decode cX0_become 37 = .ok (.putfield 52, 3) := by decide +kernel
theorem dX0_become_40 : decode cX0_become 40 = .ok (.aload_n 0, 1) := by decide +kernel
theorem dX0_become_41 : decode cX0_become 41 = .ok (.aload_n 1, 1) := by decide +kernel
theorem dX0_become_42 : decode cX0_become 42 = .ok (.getfield 55, 3) := by decide +kernel
theorem dX0_become_45 : decode cX0_become 45 = .ok (.putfield 55, 3) := by decide +kernel
theorem dX0_become_48 : decode cX0_become 48 = .ok (.aload_n 0, 1) := by decide +kernel
theorem dX0_become_49 : decode cX0_become 49 = .ok (.aload_n 1, 1) := by decide +kernel
theorem dX0_become_50 : decode cX0_become 50 = .ok (.getfield 58, 3) := by decide +kernel
theorem dX0_become_53 : decode cX0_become 53 = .ok (.putfield 58, 3) := by decide +kernel
theorem dX0_become_56 : decode cX0_become 56 = .ok (.aload_n 0, 1) := by decide +kernel
theorem dX0_become_57 : decode cX0_become 57 = .ok (.aload_n 1, 1) := by decide +kernel
theorem dX0_become_58 : decode cX0_become 58 = .ok (.getfield 61, 3) := by decide +kernel
theorem dX0_become_61 : decode cX0_become 61 = .ok (.putfield 61, 3) := by decide +kernel
theorem dX0_become_64 : decode cX0_become 64 = .ok (.aload_n 0, 1) := by decide +kernel
theorem dX0_become_65 : decode cX0_become 65 = .ok (.aload_n 1, 1) := by decide +kernel
theorem dX0_become_66 : decode cX0_become 66 = .ok (.getfield 64, 3) := by decide +kernel
theorem dX0_become_69 : decode cX0_become 69 = .ok (.putfield 64, 3) := by decide +kernel
theorem dX0_become_72 : decode cX0_become 72 = .ok (.aload_n 0, 1) := by decide +kernel
theorem dX0_become_73 : decode cX0_become 73 = .ok (.aload_n 1, 1) := by decide +kernel
theorem dX0_become_74 : decode cX0_become 74 = .ok (.getfield 67, 3) := by decide +kernel
theorem dX0_become_77 : decode cX0_become 77 = .ok (.putfield 67, 3) := by decide +kernel
theorem dX0_become_80 : decode cX0_become 80 = .ok (.aload_n 1, 1) := by decide +kernel
theorem dX0_become_81 : decode cX0_become 81 = .ok (.getfield 9, 3) := by decide +kernel
theorem dX0_become_84 : decode cX0_become 84 = .ok (.iconst 0, 1) := by decide +kernel
theorem dX0_become_85 : decode cX0_become 85 = .ok (.aload_n 0, 1) := by decide +kernel
theorem dX0_become_86 : decode cX0_become 86 = .ok (.getfield 9, 3) := by decide +kernel
theorem dX0_become_89 : decode cX0_become 89 = .ok (.iconst 0, 1) := by decide +kernel
theorem dX0_become_90 : decode cX0_become 90 = .ok (.bipush 12, 2) := by decide +kernel
theorem dX0_become_92 : decode cX0_become 92 = .ok (.invokestatic 70, 3) := by decide +kernel
theorem dX0_become_95 : decode cX0_become 95 = .ok (.aload_n 1, 1) := by decide +kernel
theorem dX0_become_96 : decode cX0_become 96 = .ok (.getfield 15, 3) := by decide +kernel
theorem dX0_become_99 : decode cX0_become 99 = .ok (.iconst 0, 1) := by decide +kernel
theorem dX0_become_100 : decode cX0_become 100 = .ok (.aload_n 0, 1) := by decide +kernel
theorem dX0_become_101 : decode cX0_become 101 = .ok (.getfield 15, 3) := by decide +kernel
theorem dX0_become_104 : decode cX0_become 104 = .ok (.iconst 0, 1) := by decide +kernel
theorem dX0_become_105 : decode cX0_become 105 = .ok (.bipush 6, 2) := by decide +kernel
theorem dX0_become_107 : decode cX0_become 107 = .ok (.invokestatic 70, 3) := by decide +kernel
theorem dX0_become_110 : decode cX0_become 110 = .ok (.aload_n 1, 1) := by decide +kernel
theorem dX0_become_111 : decode cX0_become 111 = .ok (.getfield 18, 3) := by decide +kernel
theorem dX0_become_114 : decode cX0_become 114 = .ok (.iconst 0, 1) := by decide +kernel
theorem dX0_become_115 : decode cX0_become 115 = .ok (.aload_n 0, 1) := by decide +kernel
theorem dX0_become_116 : decode cX0_become 116 = .ok (.getfield 18, 3) := by decide +kernel
theorem dX0_become_119 : decode cX0_become 119 = .ok (.iconst 0, 1) := by decide +kernel
theorem dX0_become_120 : decode cX0_become 120 = .ok (.bipush 7, 2) := by decide +kernel
theorem dX0_become_122 : decode cX0_become 122 = .ok (.invokestatic 70, 3) := by decide +kernel
theorem dX0_become_125 : decode cX0_become 125 = .ok (.aload_n 1, 1) := by decide +kernel
theorem dX0_become_126 : decode cX0_become 126 = .ok (.getfield 21, 3) := by decide +kernel
theorem dX0_become_129 : decode cX0_become 129 = .ok (.iconst 0, 1) := by decide +kernel
theorem dX0_become_130 : decode cX0_become 130 = .ok (.aload_n 0, 1) := by decide +kernel
theorem dX0_become_131 : decode cX0_become 131 = .ok (.getfield 21, 3) := by decide +kernel
theorem dX0_become_134 : decode cX0_become 134 = .ok (.iconst 0, 1) := by decide +kernel
theorem dX0_become_135 : decode cX0_become 135 = .ok (.bipush 7, 2) := by decide +kernel
theorem dX0_become_137 : decode cX0_become 137 = .ok (.invokestatic 70, 3) := by decide +kernel
theorem dX0_become_140 : decode cX0_become 140 = .ok (.aload_n 1, 1) := by decide +kernel
theorem dX0_become_141 : decode cX0_become 141 = .ok (.getfield 24, 3) := by decide +kernel
theorem dX0_become_144 : decode cX0_become 144 = .ok (.iconst 0, 1) := by decide +kernel
theorem dX0_become_145 : decode cX0_become 145 = .ok (.aload_n 0, 1) := by decide +kernel
theorem dX0_become_146 : decode cX0_become 146 = .ok (.getfield 24, 3) := by decide +kernel
theorem dX0_become_149 : decode cX0_become 149 = .ok (.iconst 0, 1) := by decide +kernel
theorem dX0_become_150 : decode cX0_become 150 = .ok (.bipush 7, 2) := by decide +kernel
theorem dX0_become_152 : decode cX0_become 152 = .ok (.invokestatic 70, 3) := by decide +kernel
theorem dX0_become_155 : decode cX0_become 155 = .ok (.aload_n 1, 1) := by decide +kernel
theorem dX0_become_156 : decode cX0_become 156 = .ok (.getfield 27, 3) := by decide +kernel
theorem dX0_become_159 : decode cX0_become 159 = .ok (.iconst 0, 1) := by decide +kernel
theorem dX0_become_160 : decode cX0_become 160 = .ok (.aload_n 0, 1) := by decide +kernel
theorem dX0_become_161 : decode cX0_become 161 = .ok (.getfield 27, 3) := by decide +kernel
theorem dX0_become_164 : decode cX0_become 164 = .ok (.iconst 0, 1) := by decide +kernel
theorem dX0_become_165 : decode cX0_become 165 = .ok (.bipush 7, 2) := by decide +kernel
theorem dX0_become_167 : decode cX0_become 167 = .ok (.invokestatic 70, 3) := by decide +kernel
theorem dX0_become_170 : decode cX0_become 170 = .ok (.aload_n 1, 1) := by decide +kernel
theorem dX0_become_171 : decode cX0_become 171 = .ok (.getfield 30, 3) := by decide +kernel
theorem dX0_become_174 : decode cX0_become 174 = .ok (.iconst 0, 1) := by decide +kernel
theorem dX0_become_175 : decode cX0_become 175 = .ok (.aload_n 0, 1) := by decide +kernel
theorem dX0_become_176 : decode cX0_become 176 = .ok (.getfield 30, 3) := by decide +kernel
theorem dX0_become_179 : decode cX0_become 179 = .ok (.iconst 0, 1) := by decide +kernel
theorem dX0_become_180 : decode cX0_become 180 = .ok (.bipush 7, 2) := by decide +kernel
theorem dX0_become_182 : decode cX0_become 182 = .ok (.invokestatic 70, 3) := by decide +kernel
theorem dX0_become_185 : decode cX0_become 185 = .ok (.aload_n 1, 1) := by decide +kernel
theorem dX0_become_186 : decode cX0_become 186 = .ok (.getfield 33, 3) := by decide +kernel
theorem dX0_become_189 : decode cX0_become 189 = .ok (.iconst 0, 1) := by decide +kernel
theorem dX0_become_190 : decode cX0_become 190 = .ok (.aload_n 0, 1) := by decide +kernel
theorem dX0_become_191 : decode cX0_become 191 = .ok (.getfield 33, 3) := by decide +kernel
theorem dX0_become_194 : decode cX0_become 194 = .ok (.iconst 0, 1) := by decide +kernel
theorem dX0_become_195 : decode cX0_become 195 = .ok (.bipush 56, 2) := by decide +kernel
theorem dX0_become_197 : decode cX0_become 197 = .ok (.invokestatic 70, 3) := by decide +kernel
theorem dX0_become_200 : decode cX0_become 200 = .ok (.aload_n 1, 1) := by decide +kernel
theorem dX0_become_201 : decode cX0_become 201 = .ok (.getfield 36, 3) := by decide +kernel
theorem dX0_become_204 : decode cX0_become 204 = .ok (.iconst 0, 1) := by decide +kernel
theorem dX0_become_205 : decode cX0_become 205 = .ok (.aload_n 0, 1) := by decide +kernel
theorem dX0_become_206 : decode cX0_become 206 = .ok (.getfield 36, 3) := by decide +kernel
theorem dX0_become_209 : decode cX0_become 209 = .ok (.iconst 0, 1) := by decide +kernel
theorem dX0_become_210 : decode cX0_become 210 = .ok (.bipush 30, 2) := by decide +kernel
theorem dX0_become_212 : decode cX0_become 212 = .ok (.invokestatic 70, 3) := by decide +kernel
theorem dX0_become_215 : decode cX0_become 215 = .ok (.return_, 1) := by decide +kernel
theorem dX0_clear_0 : decode cX0_clear 0 = .ok (.aload_n 0, 1) := by decide +kernel
theorem dX0_clear_1 : decode cX0_clear 1 = .ok (.iconst 0, 1) := by decide +kernel
theorem dX0_clear_2 : decode cX0_clear 2 = .ok (.putfield 39, 3) := by decide +kernel
theorem dX0_clear_5 : decode cX0_clear 5 = .ok (.aload_n 0, 1) := by decide +kernel
theorem dX0_clear_6 : decode cX0_clear 6 = .ok (.iconst 0, 1) := by decide +kernel
theorem dX0_clear_7 : decode cX0_clear 7 = .ok (.putfield 43, 3) := by decide +kernel
theorem dX0_clear_10 : decode cX0_clear 10 = .ok (.aload_n 0, 1) := by decide +kernel
theorem dX0_clear_11 : decode cX0_clear 11 = .ok (.iconst 0, 1) := by decide +kernel
theorem dX0_clear_12 : decode cX0_clear 12 = .ok (.putfield 46, 3) := by decide +kernel
theorem dX0_clear_15 : decode cX0_clear 15 = .ok (.aload_n 0, 1) := by decide +kernel
theorem dX0_clear_16 : decode cX0_clear 16 = .ok (.iconst 0, 1) := by decide +kernel
theorem dX0_clear_17 : decode cX0_clear 17 = .ok (.putfield 49, 3) := by decide +kernel
theorem dX0_clear_20 : decode cX0_clear 20 = .ok (.aload_n 0, 1) := by decide +kernel
theorem dX0_clear_21 : decode cX0_clear 21 = .ok (.iconst 0, 1) := by decide +kernel
theorem dX0_clear_22 : decode cX0_clear 22 = .ok (.putfield 52, 3) := by decide +kernel
theorem dX0_clear_25 : decode cX0_clear 25 = .ok (.aload_n 0, 1) := by decide +kernel
theorem dX0_clear_26 : decode cX0_clear 26 = .ok (.iconst 0, 1) := by decide +kernel
theorem dX0_clear_27 : decode cX0_clear 27 = .ok (.putfield 55, 3) := by decide +kernel
theorem dX0_clear_30 : decode cX0_clear 30 = .ok (.aload_n 0, 1) := by decide +kernel
theorem dX0_clear_31 : decode cX0_clear 31 = .ok (.iconst 0, 1) := by decide +kernel
theorem dX0_clear_32 : decode cX0_clear 32 = .ok (.putfield 58, 3) := by decide +kernel
theorem dX0_clear_35 : decode cX0_clear 35 = .ok (.aload_n 0, 1) := by decide +kernel
theorem dX0_clear_36 : decode cX0_clear 36 = .ok (.iconst 0, 1) := by decide +kernel
theorem dX0_clear_37 : decode cX0_clear 37 = .ok (.putfield 61, 3) := by decide +kernel
theorem dX0_clear_40 : decode cX0_clear 40 = .ok (.aload_n 0, 1) := by decide +kernel
theorem dX0_clear_41 : decode cX0_clear 41 = .ok (.iconst 0, 1) := by decide +kernel
theorem dX0_clear_42 : decode cX0_clear 42 = .ok (.putfield 64, 3) := by decide +kernel
theorem dX0_clear_45 : decode cX0_clear 45 = .ok (.aload_n 0, 1) := by decide +kernel
theorem dX0_clear_46 : decode cX0_clear 46 = .ok (.iconst 0, 1) := by decide +kernel
theorem dX0_clear_47 : decode cX0_clear 47 = .ok (.putfield 67, 3) := by decide +kernel
theorem dX0_clear_50 : decode cX0_clear 50 = .ok (.return_, 1) := by decide +kernel
theorem dX0_creekBits_0 : decode cX0_creekBits 0 = .ok (.lconst 0, 1) := by decide +kernel
theorem dX0_creekBits_1 : decode cX0_creekBits 1 = .ok (.lstore_n 1, 1) := by decide +kernel
theorem dX0_creekBits_2 : decode cX0_creekBits 2 = .ok (.iconst 0, 1) := by decide +kernel
theorem dX0_creekBits_3 : decode cX0_creekBits 3 = .ok (.istore_n 3, 1) := by decide +kernel
theorem dX0_creekBits_4 : decode cX0_creekBits 4 = .ok (.iload_n 3, 1) := by decide +kernel
theorem dX0_creekBits_5 : decode cX0_creekBits 5 = .ok (.aload_n 0, 1) := by decide +kernel
theorem dX0_creekBits_6 : decode cX0_creekBits 6 = .ok (.getfield 58, 3) := by decide +kernel
theorem dX0_creekBits_9 : decode cX0_creekBits 9 = .ok (.if_icmp .ge 21, 3) := by decide +kernel
theorem dX0_creekBits_12 : decode cX0_creekBits 12 = .ok (.lload_n 1, 1) := by decide +kernel
theorem dX0_creekBits_13 : decode cX0_creekBits 13 = .ok (.aload_n 0, 1) := by decide +kernel
theorem dX0_creekBits_14 : decode cX0_creekBits 14 = .ok (.getfield 9, 3) := by decide +kernel
theorem dX0_creekBits_17 : decode cX0_creekBits 17 = .ok (.iload_n 3, 1) := by decide +kernel
theorem dX0_creekBits_18 : decode cX0_creekBits 18 = .ok (.iaload, 1) := by decide +kernel
theorem dX0_creekBits_19 : decode cX0_creekBits 19 = .ok (.invokestatic 80, 3) := by decide +kernel
theorem dX0_creekBits_22 : decode cX0_creekBits 22 = .ok (.lor, 1) := by decide +kernel
theorem dX0_creekBits_23 : decode cX0_creekBits 23 = .ok (.lstore_n 1, 1) := by decide +kernel
theorem dX0_creekBits_24 : decode cX0_creekBits 24 = .ok (.iinc 3 1, 3) := by decide +kernel
theorem dX0_creekBits_27 : decode cX0_creekBits 27 = .ok (.goto (-23), 3) := by decide +kernel
theorem dX0_creekBits_30 : decode cX0_creekBits 30 = .ok (.iconst 0, 1) := by decide +kernel
theorem dX0_creekBits_31 : decode cX0_creekBits 31 = .ok (.istore_n 3, 1) := by decide +kernel
theorem dX0_creekBits_32 : decode cX0_creekBits 32 = .ok (.iload_n 3, 1) := by decide +kernel
theorem dX0_creekBits_33 : decode cX0_creekBits 33 = .ok (.aload_n 0, 1) := by decide +kernel
theorem dX0_creekBits_34 : decode cX0_creekBits 34 = .ok (.getfield 67, 3) := by decide +kernel
theorem dX0_creekBits_37 : decode cX0_creekBits 37 = .ok (.if_icmp .ge 36, 3) := by decide +kernel
theorem dX0_creekBits_40 : decode cX0_creekBits 40 = .ok (.aload_n 0, 1) := by decide +kernel
theorem dX0_creekBits_41 : decode cX0_creekBits 41 = .ok (.getfield 36, 3) := by decide +kernel
theorem dX0_creekBits_44 : decode cX0_creekBits 44 = .ok (.iload_n 3, 1) := by decide +kernel
theorem dX0_creekBits_45 : decode cX0_creekBits 45 = .ok (.iaload, 1) := by decide +kernel
theorem dX0_creekBits_46 : decode cX0_creekBits 46 = .ok (.bipush 64, 2) := by decide +kernel
theorem dX0_creekBits_48 : decode cX0_creekBits 48 = .ok (.if_icmp .ge 19, 3) := by decide +kernel
theorem dX0_creekBits_51 : decode cX0_creekBits 51 = .ok (.lload_n 1, 1) := by decide +kernel
theorem dX0_creekBits_52 : decode cX0_creekBits 52 = .ok (.aload_n 0, 1) := by decide +kernel
theorem dX0_creekBits_53 : decode cX0_creekBits 53 = .ok (.getfield 36, 3) := by decide +kernel
theorem dX0_creekBits_56 : decode cX0_creekBits 56 = .ok (.iload_n 3, 1) := by decide +kernel
theorem dX0_creekBits_57 : decode cX0_creekBits 57 = .ok (.iaload, 1) := by decide +kernel
theorem dX0_creekBits_58 : decode cX0_creekBits 58 = .ok (.invokestatic 80, 3) := by decide +kernel
theorem dX0_creekBits_61 : decode cX0_creekBits 61 = .ok (.ldc2_w 84, 3) := by decide +kernel
theorem dX0_creekBits_64 : decode cX0_creekBits 64 = .ok (.lxor, 1) := by decide +kernel
theorem dX0_creekBits_65 : decode cX0_creekBits 65 = .ok (.land, 1) := by decide +kernel
theorem dX0_creekBits_66 : decode cX0_creekBits 66 = .ok (.lstore_n 1, 1) := by decide +kernel
theorem dX0_creekBits_67 : decode cX0_creekBits 67 = .ok (.iinc 3 1, 3) := by decide +kernel
theorem dX0_creekBits_70 : decode cX0_creekBits 70 = .ok (.goto (-38), 3) := by decide +kernel
theorem dX0_creekBits_73 : decode cX0_creekBits 73 = .ok (.lload_n 1, 1) := by decide +kernel
theorem dX0_creekBits_74 : decode cX0_creekBits 74 = .ok (.lreturn, 1) := by decide +kernel
theorem dX0_field_0 : decode cX0_field 0 = .ok (.lconst 0, 1) := by decide +kernel
theorem dX0_field_1 : decode cX0_field 1 = .ok (.lstore_n 1, 1) := by decide +kernel
theorem dX0_field_2 : decode cX0_field 2 = .ok (.iconst 0, 1) := by decide +kernel
theorem dX0_field_3 : decode cX0_field 3 = .ok (.istore_n 3, 1) := by decide +kernel
theorem dX0_field_4 : decode cX0_field 4 = .ok (.iload_n 3, 1) := by decide +kernel
theorem dX0_field_5 : decode cX0_field 5 = .ok (.aload_n 0, 1) := by decide +kernel
theorem dX0_field_6 : decode cX0_field 6 = .ok (.getfield 52, 3) := by decide +kernel
theorem dX0_field_9 : decode cX0_field 9 = .ok (.if_icmp .ge 25, 3) := by decide +kernel
theorem dX0_field_12 : decode cX0_field 12 = .ok (.lload_n 1, 1) := by decide +kernel
theorem dX0_field_13 : decode cX0_field 13 = .ok (.lconst 1, 1) := by decide +kernel
theorem dX0_field_14 : decode cX0_field 14 = .ok (.aload_n 0, 1) := by decide +kernel
theorem dX0_field_15 : decode cX0_field 15 = .ok (.getfield 55, 3) := by decide +kernel
theorem dX0_field_18 : decode cX0_field 18 = .ok (.lshl, 1) := by decide +kernel
theorem dX0_field_19 : decode cX0_field 19 = .ok (.lconst 1, 1) := by decide +kernel
theorem dX0_field_20 : decode cX0_field 20 = .ok (.lsub, 1) := by decide +kernel
theorem dX0_field_21 : decode cX0_field 21 = .ok (.bipush 8, 2) := by decide +kernel
theorem dX0_field_23 : decode cX0_field 23 = .ok (.iload_n 3, 1) := by decide +kernel
theorem dX0_field_24 : decode cX0_field 24 = .ok (.imul, 1) := by decide +kernel
theorem dX0_field_25 : decode cX0_field 25 = .ok (.lshl, 1) := by decide +kernel
theorem dX0_field_26 : decode cX0_field 26 = .ok (.lor, 1) := by decide +kernel
theorem dX0_field_27 : decode cX0_field 27 = .ok (.lstore_n 1, 1) := by decide +kernel
theorem dX0_field_28 : decode cX0_field 28 = .ok (.iinc 3 1, 3) := by decide +kernel
theorem dX0_field_31 : decode cX0_field 31 = .ok (.goto (-27), 3) := by decide +kernel
theorem dX0_field_34 : decode cX0_field 34 = .ok (.lload_n 1, 1) := by decide +kernel
theorem dX0_field_35 : decode cX0_field 35 = .ok (.lreturn, 1) := by decide +kernel
theorem dX0_hasHouse_0 : decode cX0_hasHouse 0 = .ok (.iload_n 1, 1) := by decide +kernel
theorem dX0_hasHouse_1 : decode cX0_hasHouse 1 = .ok (.ifCond .lt 15, 3) := by decide +kernel
theorem dX0_hasHouse_4 : decode cX0_hasHouse 4 = .ok (.iload_n 1, 1) := by decide +kernel
theorem dX0_hasHouse_5 : decode cX0_hasHouse 5 = .ok (.aload_n 0, 1) := by decide +kernel
theorem dX0_hasHouse_6 : decode cX0_hasHouse 6 = .ok (.getfield 61, 3) := by decide +kernel
theorem dX0_hasHouse_9 : decode cX0_hasHouse 9 = .ok (.if_icmp .ge 7, 3) := by decide +kernel
theorem dX0_hasHouse_12 : decode cX0_hasHouse 12 = .ok (.iconst 1, 1) := by decide +kernel
theorem dX0_hasHouse_13 : decode cX0_hasHouse 13 = .ok (.goto 4, 3) := by decide +kernel
theorem dX0_hasHouse_16 : decode cX0_hasHouse 16 = .ok (.iconst 0, 1) := by decide +kernel
theorem dX0_hasHouse_17 : decode cX0_hasHouse 17 = .ok (.ireturn, 1) := by decide +kernel
theorem dX0_hasWidow_0 : decode cX0_hasWidow 0 = .ok (.lload_n 1, 1) := by decide +kernel
theorem dX0_hasWidow_1 : decode cX0_hasWidow 1 = .ok (.lconst 0, 1) := by decide +kernel
theorem dX0_hasWidow_2 : decode cX0_hasWidow 2 = .ok (.lcmp, 1) := by decide +kernel
theorem dX0_hasWidow_3 : decode cX0_hasWidow 3 = .ok (.ifCond .lt 17, 3) := by decide +kernel
theorem dX0_hasWidow_6 : decode cX0_hasWidow 6 = .ok (.lload_n 1, 1) := by decide +kernel
theorem dX0_hasWidow_7 : decode cX0_hasWidow 7 = .ok (.aload_n 0, 1) := by decide +kernel
theorem dX0_hasWidow_8 : decode cX0_hasWidow 8 = .ok (.getfield 64, 3) := by decide +kernel
theorem dX0_hasWidow_11 : decode cX0_hasWidow 11 = .ok (.i2l, 1) := by decide +kernel
theorem dX0_hasWidow_12 : decode cX0_hasWidow 12 = .ok (.lcmp, 1) := by decide +kernel
theorem dX0_hasWidow_13 : decode cX0_hasWidow 13 = .ok (.ifCond .ge 7, 3) := by decide +kernel
theorem dX0_hasWidow_16 : decode cX0_hasWidow 16 = .ok (.iconst 1, 1) := by decide +kernel
theorem dX0_hasWidow_17 : decode cX0_hasWidow 17 = .ok (.goto 4, 3) := by decide +kernel
theorem dX0_hasWidow_20 : decode cX0_hasWidow 20 = .ok (.iconst 0, 1) := by decide +kernel
theorem dX0_hasWidow_21 : decode cX0_hasWidow 21 = .ok (.ireturn, 1) := by decide +kernel
theorem dX0_hasYear_0 : decode cX0_hasYear 0 = .ok (.aload_n 0, 1) := by decide +kernel
theorem dX0_hasYear_1 : decode cX0_hasYear 1 = .ok (.getfield 39, 3) := by decide +kernel
theorem dX0_hasYear_4 : decode cX0_hasYear 4 = .ok (.ifCond .le 19, 3) := by decide +kernel
theorem dX0_hasYear_7 : decode cX0_hasYear 7 = .ok (.iload_n 1, 1) := by decide +kernel
theorem dX0_hasYear_8 : decode cX0_hasYear 8 = .ok (.ifCond .lt 15, 3) := by decide +kernel
theorem dX0_hasYear_11 : decode cX0_hasYear 11 = .ok (.iload_n 1, 1) := by decide +kernel
theorem dX0_hasYear_12 : decode cX0_hasYear 12 = .ok (.aload_n 0, 1) := by decide +kernel
theorem dX0_hasYear_13 : decode cX0_hasYear 13 = .ok (.getfield 43, 3) := by decide +kernel
theorem dX0_hasYear_16 : decode cX0_hasYear 16 = .ok (.if_icmp .gt 7, 3) := by decide +kernel
theorem dX0_hasYear_19 : decode cX0_hasYear 19 = .ok (.iconst 1, 1) := by decide +kernel
theorem dX0_hasYear_20 : decode cX0_hasYear 20 = .ok (.goto 4, 3) := by decide +kernel
theorem dX0_hasYear_23 : decode cX0_hasYear 23 = .ok (.iconst 0, 1) := by decide +kernel
theorem dX0_hasYear_24 : decode cX0_hasYear 24 = .ok (.ireturn, 1) := by decide +kernel
theorem dX0_houseBits_0 : decode cX0_houseBits 0 = .ok (.lconst 0, 1) := by decide +kernel
theorem dX0_houseBits_1 : decode cX0_houseBits 1 = .ok (.lstore_n 1, 1) := by decide +kernel
theorem dX0_houseBits_2 : decode cX0_houseBits 2 = .ok (.iconst 0, 1) := by decide +kernel
theorem dX0_houseBits_3 : decode cX0_houseBits 3 = .ok (.istore_n 3, 1) := by decide +kernel
theorem dX0_houseBits_4 : decode cX0_houseBits 4 = .ok (.iload_n 3, 1) := by decide +kernel
theorem dX0_houseBits_5 : decode cX0_houseBits 5 = .ok (.aload_n 0, 1) := by decide +kernel
theorem dX0_houseBits_6 : decode cX0_houseBits 6 = .ok (.getfield 61, 3) := by decide +kernel
theorem dX0_houseBits_9 : decode cX0_houseBits 9 = .ok (.if_icmp .ge 21, 3) := by decide +kernel
theorem dX0_houseBits_12 : decode cX0_houseBits 12 = .ok (.lload_n 1, 1) := by decide +kernel
theorem dX0_houseBits_13 : decode cX0_houseBits 13 = .ok (.aload_n 0, 1) := by decide +kernel
theorem dX0_houseBits_14 : decode cX0_houseBits 14 = .ok (.getfield 15, 3) := by decide +kernel
theorem dX0_houseBits_17 : decode cX0_houseBits 17 = .ok (.iload_n 3, 1) := by decide +kernel
theorem dX0_houseBits_18 : decode cX0_houseBits 18 = .ok (.iaload, 1) := by decide +kernel
theorem dX0_houseBits_19 : decode cX0_houseBits 19 = .ok (.invokestatic 80, 3) := by decide +kernel
theorem dX0_houseBits_22 : decode cX0_houseBits 22 = .ok (.lor, 1) := by decide +kernel
theorem dX0_houseBits_23 : decode cX0_houseBits 23 = .ok (.lstore_n 1, 1) := by decide +kernel
theorem dX0_houseBits_24 : decode cX0_houseBits 24 = .ok (.iinc 3 1, 3) := by decide +kernel
theorem dX0_houseBits_27 : decode cX0_houseBits 27 = .ok (.goto (-23), 3) := by decide +kernel
theorem dX0_houseBits_30 : decode cX0_houseBits 30 = .ok (.lload_n 1, 1) := by decide +kernel
theorem dX0_houseBits_31 : decode cX0_houseBits 31 = .ok (.lreturn, 1) := by decide +kernel
theorem dX0_spotOf_0 : decode cX0_spotOf 0 = .ok (.lload_n 1, 1) := by decide +kernel
theorem dX0_spotOf_1 : decode cX0_spotOf 1 = .ok (.lconst 0, 1) := by decide +kernel
theorem dX0_spotOf_2 : decode cX0_spotOf 2 = .ok (.lcmp, 1) := by decide +kernel
theorem dX0_spotOf_3 : decode cX0_spotOf 3 = .ok (.ifCond .lt 31, 3) := by decide +kernel
theorem dX0_spotOf_6 : decode cX0_spotOf 6 = .ok (.lload_n 1, 1) := by decide +kernel
theorem dX0_spotOf_7 : decode cX0_spotOf 7 = .ok (.ldc2_w 76, 3) := by decide +kernel
theorem dX0_spotOf_10 : decode cX0_spotOf 10 = .ok (.ldiv, 1) := by decide +kernel
theorem dX0_spotOf_11 : decode cX0_spotOf 11 = .ok (.aload_n 0, 1) := by decide +kernel
theorem dX0_spotOf_12 : decode cX0_spotOf 12 = .ok (.getfield 52, 3) := by decide +kernel
theorem dX0_spotOf_15 : decode cX0_spotOf 15 = .ok (.i2l, 1) := by decide +kernel
theorem dX0_spotOf_16 : decode cX0_spotOf 16 = .ok (.lcmp, 1) := by decide +kernel
theorem dX0_spotOf_17 : decode cX0_spotOf 17 = .ok (.ifCond .ge 17, 3) := by decide +kernel
theorem dX0_spotOf_20 : decode cX0_spotOf 20 = .ok (.lload_n 1, 1) := by decide +kernel
theorem dX0_spotOf_21 : decode cX0_spotOf 21 = .ok (.ldc2_w 76, 3) := by decide +kernel
theorem dX0_spotOf_24 : decode cX0_spotOf 24 = .ok (.lrem, 1) := by decide +kernel
theorem dX0_spotOf_25 : decode cX0_spotOf 25 = .ok (.aload_n 0, 1) := by decide +kernel
theorem dX0_spotOf_26 : decode cX0_spotOf 26 = .ok (.getfield 55, 3) := by decide +kernel
theorem dX0_spotOf_29 : decode cX0_spotOf 29 = .ok (.i2l, 1) := by decide +kernel
theorem dX0_spotOf_30 : decode cX0_spotOf 30 = .ok (.lcmp, 1) := by decide +kernel
theorem dX0_spotOf_31 : decode cX0_spotOf 31 = .ok (.ifCond .lt 5, 3) := by decide +kernel
theorem dX0_spotOf_34 : decode cX0_spotOf 34 = .ok (.iconst (-1), 1) := by decide +kernel
theorem dX0_spotOf_35 : decode cX0_spotOf 35 = .ok (.ireturn, 1) := by decide +kernel
theorem dX0_spotOf_36 : decode cX0_spotOf 36 = .ok (.ldc2_w 78, 3) := by decide +kernel
theorem dX0_spotOf_39 : decode cX0_spotOf 39 = .ok (.lload_n 1, 1) := by decide +kernel
theorem dX0_spotOf_40 : decode cX0_spotOf 40 = .ok (.ldc2_w 76, 3) := by decide +kernel
theorem dX0_spotOf_43 : decode cX0_spotOf 43 = .ok (.ldiv, 1) := by decide +kernel
theorem dX0_spotOf_44 : decode cX0_spotOf 44 = .ok (.lmul, 1) := by decide +kernel
theorem dX0_spotOf_45 : decode cX0_spotOf 45 = .ok (.lload_n 1, 1) := by decide +kernel
theorem dX0_spotOf_46 : decode cX0_spotOf 46 = .ok (.ldc2_w 76, 3) := by decide +kernel
theorem dX0_spotOf_49 : decode cX0_spotOf 49 = .ok (.lrem, 1) := by decide +kernel
theorem dX0_spotOf_50 : decode cX0_spotOf 50 = .ok (.ladd, 1) := by decide +kernel
theorem dX0_spotOf_51 : decode cX0_spotOf 51 = .ok (.l2i, 1) := by decide +kernel
theorem dX0_spotOf_52 : decode cX0_spotOf 52 = .ok (.ireturn, 1) := by decide +kernel
theorem dX0_walkerBits_0 : decode cX0_walkerBits 0 = .ok (.iconst 1, 1) := by decide +kernel
theorem dX0_walkerBits_1 : decode cX0_walkerBits 1 = .ok (.aload_n 0, 1) := by decide +kernel
theorem dX0_walkerBits_2 : decode cX0_walkerBits 2 = .ok (.getfield 64, 3) := by decide +kernel
theorem dX0_walkerBits_5 : decode cX0_walkerBits 5 = .ok (.ishl, 1) := by decide +kernel
theorem dX0_walkerBits_6 : decode cX0_walkerBits 6 = .ok (.iconst 1, 1) := by decide +kernel
theorem dX0_walkerBits_7 : decode cX0_walkerBits 7 = .ok (.isub, 1) := by decide +kernel
theorem dX0_walkerBits_8 : decode cX0_walkerBits 8 = .ok (.istore_n 1, 1) := by decide +kernel
theorem dX0_walkerBits_9 : decode cX0_walkerBits 9 = .ok (.iconst 0, 1) := by decide +kernel
theorem dX0_walkerBits_10 : decode cX0_walkerBits 10 = .ok (.istore_n 2, 1) := by decide +kernel
theorem dX0_walkerBits_11 : decode cX0_walkerBits 11 = .ok (.iload_n 2, 1) := by decide +kernel
theorem dX0_walkerBits_12 : decode cX0_walkerBits 12 = .ok (.aload_n 0, 1) := by decide +kernel
theorem dX0_walkerBits_13 : decode cX0_walkerBits 13 = .ok (.getfield 67, 3) := by decide +kernel
theorem dX0_walkerBits_16 : decode cX0_walkerBits 16 = .ok (.if_icmp .ge 36, 3) := by decide +kernel
theorem dX0_walkerBits_19 : decode cX0_walkerBits 19 = .ok (.aload_n 0, 1) := by decide +kernel
theorem dX0_walkerBits_20 : decode cX0_walkerBits 20 = .ok (.getfield 36, 3) := by decide +kernel
theorem dX0_walkerBits_23 : decode cX0_walkerBits 23 = .ok (.iload_n 2, 1) := by decide +kernel
theorem dX0_walkerBits_24 : decode cX0_walkerBits 24 = .ok (.iaload, 1) := by decide +kernel
theorem dX0_walkerBits_25 : decode cX0_walkerBits 25 = .ok (.bipush 64, 2) := by decide +kernel
theorem dX0_walkerBits_27 : decode cX0_walkerBits 27 = .ok (.if_icmp .lt 19, 3) := by decide +kernel
theorem dX0_walkerBits_30 : decode cX0_walkerBits 30 = .ok (.iload_n 1, 1) := by decide +kernel
theorem dX0_walkerBits_31 : decode cX0_walkerBits 31 = .ok (.iconst 1, 1) := by decide +kernel
theorem dX0_walkerBits_32 : decode cX0_walkerBits 32 = .ok (.aload_n 0, 1) := by decide +kernel
theorem dX0_walkerBits_33 : decode cX0_walkerBits 33 = .ok (.getfield 36, 3) := by decide +kernel
theorem dX0_walkerBits_36 : decode cX0_walkerBits 36 = .ok (.iload_n 2, 1) := by decide +kernel
theorem dX0_walkerBits_37 : decode cX0_walkerBits 37 = .ok (.iaload, 1) := by decide +kernel
theorem dX0_walkerBits_38 : decode cX0_walkerBits 38 = .ok (.bipush 64, 2) := by decide +kernel
theorem dX0_walkerBits_40 : decode cX0_walkerBits 40 = .ok (.isub, 1) := by decide +kernel
theorem dX0_walkerBits_41 : decode cX0_walkerBits 41 = .ok (.ishl, 1) := by decide +kernel
theorem dX0_walkerBits_42 : decode cX0_walkerBits 42 = .ok (.iconst (-1), 1) := by decide +kernel
theorem dX0_walkerBits_43 : decode cX0_walkerBits 43 = .ok (.ixor, 1) := by decide +kernel
theorem dX0_walkerBits_44 : decode cX0_walkerBits 44 = .ok (.iand, 1) := by decide +kernel
theorem dX0_walkerBits_45 : decode cX0_walkerBits 45 = .ok (.istore_n 1, 1) := by decide +kernel
theorem dX0_walkerBits_46 : decode cX0_walkerBits 46 = .ok (.iinc 2 1, 3) := by decide +kernel
theorem dX0_walkerBits_49 : decode cX0_walkerBits 49 = .ok (.goto (-38), 3) := by decide +kernel
theorem dX0_walkerBits_52 : decode cX0_walkerBits 52 = .ok (.iload_n 1, 1) := by decide +kernel
theorem dX0_walkerBits_53 : decode cX0_walkerBits 53 = .ok (.ireturn, 1) := by decide +kernel
theorem dX7_asNow_0 : decode cX7_asNow 0 = .ok (.aload_n 0, 1) := by decide +kernel
theorem dX7_asNow_1 : decode cX7_asNow 1 = .ok (.aload_n 1, 1) := by decide +kernel
theorem dX7_asNow_2 : decode cX7_asNow 2 = .ok (.getfield 9, 3) := by decide +kernel
theorem dX7_asNow_5 : decode cX7_asNow 5 = .ok (.putfield 15, 3) := by decide +kernel
theorem dX7_asNow_8 : decode cX7_asNow 8 = .ok (.aload_n 0, 1) := by decide +kernel
theorem dX7_asNow_9 : decode cX7_asNow 9 = .ok (.aload_n 1, 1) := by decide +kernel
theorem dX7_asNow_10 : decode cX7_asNow 10 = .ok (.invokevirtual 18, 3) := by decide +kernel
theorem dX7_asNow_13 : decode cX7_asNow 13 = .ok (.putfield 22, 3) := by decide +kernel
theorem dX7_asNow_16 : decode cX7_asNow 16 = .ok (.aload_n 0, 1) := by decide +kernel
theorem dX7_asNow_17 : decode cX7_asNow 17 = .ok (.aload_n 1, 1) := by decide +kernel
theorem dX7_asNow_18 : decode cX7_asNow 18 = .ok (.invokevirtual 25, 3) := by decide +kernel
theorem dX7_asNow_21 : decode cX7_asNow 21 = .ok (.putfield 29, 3) := by decide +kernel
theorem dX7_asNow_24 : decode cX7_asNow 24 = .ok (.aload_n 0, 1) := by decide +kernel
theorem dX7_asNow_25 : decode cX7_asNow 25 = .ok (.iconst (-1), 1) := by decide +kernel
theorem dX7_asNow_26 : decode cX7_asNow 26 = .ok (.putfield 33, 3) := by decide +kernel
theorem dX7_asNow_29 : decode cX7_asNow 29 = .ok (.aload_n 0, 1) := by decide +kernel
theorem dX7_asNow_30 : decode cX7_asNow 30 = .ok (.iconst (-1), 1) := by decide +kernel
theorem dX7_asNow_31 : decode cX7_asNow 31 = .ok (.putfield 36, 3) := by decide +kernel
theorem dX7_asNow_34 : decode cX7_asNow 34 = .ok (.aload_n 0, 1) := by decide +kernel
theorem dX7_asNow_35 : decode cX7_asNow 35 = .ok (.iconst (-1), 1) := by decide +kernel
theorem dX7_asNow_36 : decode cX7_asNow 36 = .ok (.putfield 39, 3) := by decide +kernel
theorem dX7_asNow_39 : decode cX7_asNow 39 = .ok (.return_, 1) := by decide +kernel
theorem dX7_facesAtFirst_0 : decode cX7_facesAtFirst 0 = .ok (.iload_n 2, 1) := by decide +kernel
theorem dX7_facesAtFirst_1 : decode cX7_facesAtFirst 1 = .ok (.aload_n 0, 1) := by decide +kernel
theorem dX7_facesAtFirst_2 : decode cX7_facesAtFirst 2 = .ok (.getfield 33, 3) := by decide +kernel
theorem dX7_facesAtFirst_5 : decode cX7_facesAtFirst 5 = .ok (.if_icmp .ne 18, 3) := by decide +kernel
theorem dX7_facesAtFirst_8 : decode cX7_facesAtFirst 8 = .ok (.aload_n 0, 1) := by decide +kernel
theorem dX7_facesAtFirst_9 : decode cX7_facesAtFirst 9 = .ok (.getfield 36, 3) := by decide +kernel
theorem dX7_facesAtFirst_12 : decode cX7_facesAtFirst 12 = .ok (.iconst (-1), 1) := by decide +kernel
theorem dX7_facesAtFirst_13 : decode cX7_facesAtFirst 13 = .ok (.if_icmp .eq 10, 3) := by decide +kernel
theorem dX7_facesAtFirst_16 : decode cX7_facesAtFirst 16 = .ok (.aload_n 0, 1) := by decide +kernel
theorem dX7_facesAtFirst_17 : decode cX7_facesAtFirst 17 = .ok (.getfield 36, 3) := by decide +kernel
theorem dX7_facesAtFirst_20 : decode cX7_facesAtFirst 20 = .ok (.goto 9, 3) := by decide +kernel
theorem dX7_facesAtFirst_23 : decode cX7_facesAtFirst 23 = .ok (.aload_n 1, 1) := by decide +kernel
theorem dX7_facesAtFirst_24 : decode cX7_facesAtFirst 24 = .ok (.getfield 42, 3) := by decide +kernel
theorem dX7_facesAtFirst_27 : decode cX7_facesAtFirst 27 = .ok (.iload_n 2, 1) := by decide +kernel
theorem dX7_facesAtFirst_28 : decode cX7_facesAtFirst 28 = .ok (.iaload, 1) := by decide +kernel
theorem dX7_facesAtFirst_29 : decode cX7_facesAtFirst 29 = .ok (.ireturn, 1) := by decide +kernel
theorem dX7_turnOf_0 : decode cX7_turnOf 0 = .ok (.iload_n 2, 1) := by decide +kernel
theorem dX7_turnOf_1 : decode cX7_turnOf 1 = .ok (.aload_n 0, 1) := by decide +kernel
theorem dX7_turnOf_2 : decode cX7_turnOf 2 = .ok (.getfield 33, 3) := by decide +kernel
theorem dX7_turnOf_5 : decode cX7_turnOf 5 = .ok (.if_icmp .ne 16, 3) := by decide +kernel
theorem dX7_turnOf_8 : decode cX7_turnOf 8 = .ok (.aload_n 0, 1) := by decide +kernel
theorem dX7_turnOf_9 : decode cX7_turnOf 9 = .ok (.getfield 39, 3) := by decide +kernel
theorem dX7_turnOf_12 : decode cX7_turnOf 12 = .ok (.iconst (-1), 1) := by decide +kernel
theorem dX7_turnOf_13 : decode cX7_turnOf 13 = .ok (.if_icmp .eq 8, 3) := by decide +kernel
theorem dX7_turnOf_16 : decode cX7_turnOf 16 = .ok (.aload_n 0, 1) := by decide +kernel
theorem dX7_turnOf_17 : decode cX7_turnOf 17 = .ok (.getfield 39, 3) := by decide +kernel
theorem dX7_turnOf_20 : decode cX7_turnOf 20 = .ok (.ireturn, 1) := by decide +kernel
theorem dX7_turnOf_21 : decode cX7_turnOf 21 = .ok (.aload_n 1, 1) := by decide +kernel
theorem dX7_turnOf_22 : decode cX7_turnOf 22 = .ok (.getfield 45, 3) := by decide +kernel
theorem dX7_turnOf_25 : decode cX7_turnOf 25 = .ok (.iload_n 2, 1) := by decide +kernel
theorem dX7_turnOf_26 : decode cX7_turnOf 26 = .ok (.iaload, 1) := by decide +kernel
theorem dX7_turnOf_27 : decode cX7_turnOf 27 = .ok (.istore 4, 2) := by decide +kernel
theorem dX7_turnOf_29 : decode cX7_turnOf 29 = .ok (.iload 4, 2) := by decide +kernel
theorem dX7_turnOf_31 : decode cX7_turnOf 31 = .ok (.ifCond .le 20, 3) := by decide +kernel
theorem dX7_turnOf_34 : decode cX7_turnOf 34 = .ok (.aload_n 1, 1) := by decide +kernel
theorem dX7_turnOf_35 : decode cX7_turnOf 35 = .ok (.getfield 48, 3) := by decide +kernel
theorem dX7_turnOf_38 : decode cX7_turnOf 38 = .ok (.iload_n 2, 1) := by decide +kernel
theorem dX7_turnOf_39 : decode cX7_turnOf 39 = .ok (.bipush 8, 2) := by decide +kernel
theorem dX7_turnOf_41 : decode cX7_turnOf 41 = .ok (.imul, 1) := by decide +kernel
theorem dX7_turnOf_42 : decode cX7_turnOf 42 = .ok (.iload_n 3, 1) := by decide +kernel
theorem dX7_turnOf_43 : decode cX7_turnOf 43 = .ok (.iload 4, 2) := by decide +kernel
theorem dX7_turnOf_45 : decode cX7_turnOf 45 = .ok (.irem, 1) := by decide +kernel
theorem dX7_turnOf_46 : decode cX7_turnOf 46 = .ok (.iadd, 1) := by decide +kernel
theorem dX7_turnOf_47 : decode cX7_turnOf 47 = .ok (.iaload, 1) := by decide +kernel
theorem dX7_turnOf_48 : decode cX7_turnOf 48 = .ok (.goto 4, 3) := by decide +kernel
theorem dX7_turnOf_51 : decode cX7_turnOf 51 = .ok (.iconst 0, 1) := by decide +kernel
theorem dX7_turnOf_52 : decode cX7_turnOf 52 = .ok (.ireturn, 1) := by decide +kernel
set_option maxHeartbeats 4000000 in
set_option maxRecDepth 100000 in
theorem f_X0_hasWidow (l : Launch) (G : va_G) (cI cJ cZ cB cQ : ClassId) (sz : Nat) (h0 : Nat) (p0 : Int64) (a0 : Int) (b : Nat → Nat) (o_lines : Int32) (o_span : Int32) (o_rule : Int32) (o_odds : Int32) (o_wide : Int32) (o_high : Int32) (o_creeks : Int32) (o_houses : Int32) (o_widows : Int32) (o_acts : Int32) (ha : p0.toInt = a0) (hl_o_span : 0 ≤ o_span.toInt) (hh_o_span : o_span.toInt ≤ 12) (hl_o_rule : 0 ≤ o_rule.toInt) (hh_o_rule : o_rule.toInt ≤ 3) (hl_o_odds : 0 ≤ o_odds.toInt) (hh_o_odds : o_odds.toInt ≤ 10) (hl_o_wide : 0 ≤ o_wide.toInt) (hh_o_wide : o_wide.toInt ≤ 8) (hl_o_high : 0 ≤ o_high.toInt) (hh_o_high : o_high.toInt ≤ 8) (hl_o_creeks : 0 ≤ o_creeks.toInt) (hh_o_creeks : o_creeks.toInt ≤ 12) (hl_o_houses : 0 ≤ o_houses.toInt) (hh_o_houses : o_houses.toInt ≤ 6) (hl_o_widows : 0 ≤ o_widows.toInt) (hh_o_widows : o_widows.toInt ≤ 7) (hl_o_acts : 0 ≤ o_acts.toInt) (hh_o_acts : o_acts.toInt ≤ 30) : CI l yX0_hasWidow (wl_ yX0_hasWidow cX0_hasWidow 3 (some .boolean)) ({ frames := 0, cells := 0, slots := 0, locals := 0 } : Room) G (TY cI cJ cZ cB cQ) [.ref h0, .long p0] [(h0, oX0 b o_lines o_span o_rule o_odds o_wide o_high o_creeks o_houses o_widows o_acts)] sz (fun (r : Int32) (u : Unit) => ((r = 1 ∧ 0 ≤ a0 ∧ a0 < o_widows.toInt) ∨ (r = 0 ∧ (a0 < 0 ∨ o_widows.toInt ≤ a0)))) (fun _ : Unit => [(h0, oX0 b o_lines o_span o_rule o_odds o_wide o_high o_creeks o_houses o_widows o_acts)]) 0 0 := by
  refine CI.goz (cc := cX0_hasWidow) (maxL := 3) (ret := (some .boolean)) (by decide) rfl (Nat.le_of_ble_eq_true rfl) ?_
  intro p e s m below meth c A ls Q hBd hret
  obtain ⟨hx, hb, hr, hml, hts, hown, hlk, hnm, hP, hK, hD, hA, hZ, hl⟩ := hBd
  have hown : s.vm.findClass RX0 = some m.cls := hown
  have hl : lv_has ls 3 [(0, .ref h0), (1, .long p0)] := hl
  have hS : va_S A s.heap s.heap [] := va_S.rf
  refine lv_lload_n hx hb dX0_hasWidow_0 rfl (lv_at hl 1 rfl) ?_
  refine lv_lconst (v := 0) hx hb dX0_hasWidow_1 (by decide) ?_
  refine W.lcmp hx hb dX0_hasWidow_2 ?_
  refine lv_if_lt (tgt := 20) hx hb dX0_hasWidow_3 (by decide) (fun c1 => ?_) (fun c1 => ?_)
  · have c1 := c_lt ha kl_0 c1
    refine lv_iconst (v := 0) hx hb dX0_hasWidow_20 (by decide) ?_
    exact hret _ _ _ _ 0 () hP hD hS dX0_hasWidow_21 rfl (show (((0 : Int32) = 1 ∧ 0 ≤ a0 ∧ a0 < o_widows.toInt) ∨ ((0 : Int32) = 0 ∧ (a0 < 0 ∨ o_widows.toInt ≤ a0))) from (Or.inr ⟨rfl, by omega⟩))
  · have c1 := c_nlt ha kl_0 c1
    refine lv_lload_n hx hb dX0_hasWidow_6 rfl (lv_at hl 1 rfl) ?_
    refine lv_aload_n hx hb dX0_hasWidow_7 rfl (lv_at hl 0 rfl) ?_
    refine va_get (D := G) (ci := 0) (v := .int o_widows) (C := RX0) (T := TX0) (N := 19) hx hb hts iG_X0 hown hK hP 0 rfl rfl 8 (by decide) (hts _ w_86) (fun _ h9 => h9) rfl dX0_hasWidow_8 ?_
    obtain ⟨v2, ev2⟩ : ∃ y : Int64, o_widows.toInt64 = y := ⟨_, rfl⟩
    have tv2 : v2.toInt = o_widows.toInt := ti_wide rfl ev2
    refine lv_i2l (v := v2) hx hb dX0_hasWidow_11 ev2 ?_
    refine W.lcmp hx hb dX0_hasWidow_12 ?_
    refine lv_if_ge (tgt := 20) hx hb dX0_hasWidow_13 (by decide) (fun c3 => ?_) (fun c3 => ?_)
    · have c3 := c_ge ha tv2 c3
      refine lv_iconst (v := 0) hx hb dX0_hasWidow_20 (by decide) ?_
      exact hret _ _ _ _ 0 () hP hD hS dX0_hasWidow_21 rfl (show (((0 : Int32) = 1 ∧ 0 ≤ a0 ∧ a0 < o_widows.toInt) ∨ ((0 : Int32) = 0 ∧ (a0 < 0 ∨ o_widows.toInt ≤ a0))) from (Or.inr ⟨rfl, by omega⟩))
    · have c3 := c_nge ha tv2 c3
      refine lv_iconst (v := 1) hx hb dX0_hasWidow_16 (by decide) ?_
      refine lv_goto (tgt := 21) hx hb dX0_hasWidow_17 (by decide) ?_
      exact hret _ _ _ _ 1 () hP hD hS dX0_hasWidow_21 rfl (show (((1 : Int32) = 1 ∧ 0 ≤ a0 ∧ a0 < o_widows.toInt) ∨ ((1 : Int32) = 0 ∧ (a0 < 0 ∨ o_widows.toInt ≤ a0))) from (Or.inl ⟨rfl, by omega, by omega⟩))
set_option maxHeartbeats 4000000 in
set_option maxRecDepth 100000 in
theorem f_X0_hasHouse (l : Launch) (G : va_G) (cI cJ cZ cB cQ : ClassId) (sz : Nat) (h0 : Nat) (p0 : Int32) (a0 : Int) (b : Nat → Nat) (o_lines : Int32) (o_span : Int32) (o_rule : Int32) (o_odds : Int32) (o_wide : Int32) (o_high : Int32) (o_creeks : Int32) (o_houses : Int32) (o_widows : Int32) (o_acts : Int32) (ha : p0.toInt = a0) (hl_o_span : 0 ≤ o_span.toInt) (hh_o_span : o_span.toInt ≤ 12) (hl_o_rule : 0 ≤ o_rule.toInt) (hh_o_rule : o_rule.toInt ≤ 3) (hl_o_odds : 0 ≤ o_odds.toInt) (hh_o_odds : o_odds.toInt ≤ 10) (hl_o_wide : 0 ≤ o_wide.toInt) (hh_o_wide : o_wide.toInt ≤ 8) (hl_o_high : 0 ≤ o_high.toInt) (hh_o_high : o_high.toInt ≤ 8) (hl_o_creeks : 0 ≤ o_creeks.toInt) (hh_o_creeks : o_creeks.toInt ≤ 12) (hl_o_houses : 0 ≤ o_houses.toInt) (hh_o_houses : o_houses.toInt ≤ 6) (hl_o_widows : 0 ≤ o_widows.toInt) (hh_o_widows : o_widows.toInt ≤ 7) (hl_o_acts : 0 ≤ o_acts.toInt) (hh_o_acts : o_acts.toInt ≤ 30) : CI l yX0_hasHouse (wl_ yX0_hasHouse cX0_hasHouse 2 (some .boolean)) ({ frames := 0, cells := 0, slots := 0, locals := 0 } : Room) G (TY cI cJ cZ cB cQ) [.ref h0, .int p0] [(h0, oX0 b o_lines o_span o_rule o_odds o_wide o_high o_creeks o_houses o_widows o_acts)] sz (fun (r : Int32) (u : Unit) => ((r = 1 ∧ 0 ≤ a0 ∧ a0 < o_houses.toInt) ∨ (r = 0 ∧ (a0 < 0 ∨ o_houses.toInt ≤ a0)))) (fun _ : Unit => [(h0, oX0 b o_lines o_span o_rule o_odds o_wide o_high o_creeks o_houses o_widows o_acts)]) 0 0 := by
  refine CI.goz (cc := cX0_hasHouse) (maxL := 2) (ret := (some .boolean)) (by decide) rfl (Nat.le_of_ble_eq_true rfl) ?_
  intro p e s m below meth c A ls Q hBd hret
  obtain ⟨hx, hb, hr, hml, hts, hown, hlk, hnm, hP, hK, hD, hA, hZ, hl⟩ := hBd
  have hown : s.vm.findClass RX0 = some m.cls := hown
  have hl : lv_has ls 2 [(0, .ref h0), (1, .int p0)] := hl
  have hS : va_S A s.heap s.heap [] := va_S.rf
  refine lv_iload_n hx hb dX0_hasHouse_0 rfl (lv_at hl 1 rfl) ?_
  refine lv_if_lt (tgt := 16) hx hb dX0_hasHouse_1 (by decide) (fun c1 => ?_) (fun c1 => ?_)
  · have c1 := i_lt ha ki_0 c1
    refine lv_iconst (v := 0) hx hb dX0_hasHouse_16 (by decide) ?_
    exact hret _ _ _ _ 0 () hP hD hS dX0_hasHouse_17 rfl (show (((0 : Int32) = 1 ∧ 0 ≤ a0 ∧ a0 < o_houses.toInt) ∨ ((0 : Int32) = 0 ∧ (a0 < 0 ∨ o_houses.toInt ≤ a0))) from (Or.inr ⟨rfl, by omega⟩))
  · have c1 := i_nlt ha ki_0 c1
    refine lv_iload_n hx hb dX0_hasHouse_4 rfl (lv_at hl 1 rfl) ?_
    refine lv_aload_n hx hb dX0_hasHouse_5 rfl (lv_at hl 0 rfl) ?_
    refine va_get (D := G) (ci := 0) (v := .int o_houses) (C := RX0) (T := TX0) (N := 19) hx hb hts iG_X0 hown hK hP 0 rfl rfl 7 (by decide) (hts _ w_80) (fun _ h9 => h9) rfl dX0_hasHouse_6 ?_
    refine lv_icmp_ge (tgt := 16) hx hb dX0_hasHouse_9 (by decide) (fun c2 => ?_) (fun c2 => ?_)
    · have c2 := i_le rfl ha c2
      refine lv_iconst (v := 0) hx hb dX0_hasHouse_16 (by decide) ?_
      exact hret _ _ _ _ 0 () hP hD hS dX0_hasHouse_17 rfl (show (((0 : Int32) = 1 ∧ 0 ≤ a0 ∧ a0 < o_houses.toInt) ∨ ((0 : Int32) = 0 ∧ (a0 < 0 ∨ o_houses.toInt ≤ a0))) from (Or.inr ⟨rfl, by omega⟩))
    · have c2 := i_nle rfl ha c2
      refine lv_iconst (v := 1) hx hb dX0_hasHouse_12 (by decide) ?_
      refine lv_goto (tgt := 17) hx hb dX0_hasHouse_13 (by decide) ?_
      exact hret _ _ _ _ 1 () hP hD hS dX0_hasHouse_17 rfl (show (((1 : Int32) = 1 ∧ 0 ≤ a0 ∧ a0 < o_houses.toInt) ∨ ((1 : Int32) = 0 ∧ (a0 < 0 ∨ o_houses.toInt ≤ a0))) from (Or.inl ⟨rfl, by omega, by omega⟩))
set_option maxHeartbeats 4000000 in
set_option maxRecDepth 100000 in
theorem f_X0_hasYear (l : Launch) (G : va_G) (cI cJ cZ cB cQ : ClassId) (sz : Nat) (h0 : Nat) (p0 : Int32) (a0 : Int) (b : Nat → Nat) (o_lines : Int32) (o_span : Int32) (o_rule : Int32) (o_odds : Int32) (o_wide : Int32) (o_high : Int32) (o_creeks : Int32) (o_houses : Int32) (o_widows : Int32) (o_acts : Int32) (ha : p0.toInt = a0) (hl_o_span : 0 ≤ o_span.toInt) (hh_o_span : o_span.toInt ≤ 12) (hl_o_rule : 0 ≤ o_rule.toInt) (hh_o_rule : o_rule.toInt ≤ 3) (hl_o_odds : 0 ≤ o_odds.toInt) (hh_o_odds : o_odds.toInt ≤ 10) (hl_o_wide : 0 ≤ o_wide.toInt) (hh_o_wide : o_wide.toInt ≤ 8) (hl_o_high : 0 ≤ o_high.toInt) (hh_o_high : o_high.toInt ≤ 8) (hl_o_creeks : 0 ≤ o_creeks.toInt) (hh_o_creeks : o_creeks.toInt ≤ 12) (hl_o_houses : 0 ≤ o_houses.toInt) (hh_o_houses : o_houses.toInt ≤ 6) (hl_o_widows : 0 ≤ o_widows.toInt) (hh_o_widows : o_widows.toInt ≤ 7) (hl_o_acts : 0 ≤ o_acts.toInt) (hh_o_acts : o_acts.toInt ≤ 30) : CI l yX0_hasYear (wl_ yX0_hasYear cX0_hasYear 2 (some .boolean)) ({ frames := 0, cells := 0, slots := 0, locals := 0 } : Room) G (TY cI cJ cZ cB cQ) [.ref h0, .int p0] [(h0, oX0 b o_lines o_span o_rule o_odds o_wide o_high o_creeks o_houses o_widows o_acts)] sz (fun (r : Int32) (u : Unit) => ((r = 1 ∧ 0 ≤ a0 ∧ a0 ≤ o_span.toInt) ∨ (r = 0))) (fun _ : Unit => [(h0, oX0 b o_lines o_span o_rule o_odds o_wide o_high o_creeks o_houses o_widows o_acts)]) 0 0 := by
  refine CI.goz (cc := cX0_hasYear) (maxL := 2) (ret := (some .boolean)) (by decide) rfl (Nat.le_of_ble_eq_true rfl) ?_
  intro p e s m below meth c A ls Q hBd hret
  obtain ⟨hx, hb, hr, hml, hts, hown, hlk, hnm, hP, hK, hD, hA, hZ, hl⟩ := hBd
  have hown : s.vm.findClass RX0 = some m.cls := hown
  have hl : lv_has ls 2 [(0, .ref h0), (1, .int p0)] := hl
  have hS : va_S A s.heap s.heap [] := va_S.rf
  refine lv_aload_n hx hb dX0_hasYear_0 rfl (lv_at hl 0 rfl) ?_
  refine va_get (D := G) (ci := 0) (v := .int o_lines) (C := RX0) (T := TX0) (N := 19) hx hb hts iG_X0 hown hK hP 0 rfl rfl 0 (by decide) (hts _ w_55) (fun _ h9 => h9) rfl dX0_hasYear_1 ?_
  refine lv_if_le (tgt := 23) hx hb dX0_hasYear_4 (by decide) (fun c1 => ?_) (fun c1 => ?_)
  · have c1 := i_le rfl ki_0 c1
    refine lv_iconst (v := 0) hx hb dX0_hasYear_23 (by decide) ?_
    exact hret _ _ _ _ 0 () hP hD hS dX0_hasYear_24 rfl (show (((0 : Int32) = 1 ∧ 0 ≤ a0 ∧ a0 ≤ o_span.toInt) ∨ ((0 : Int32) = 0)) from (Or.inr rfl))
  · have c1 := i_nle rfl ki_0 c1
    refine lv_iload_n hx hb dX0_hasYear_7 rfl (lv_at hl 1 rfl) ?_
    refine lv_if_lt (tgt := 23) hx hb dX0_hasYear_8 (by decide) (fun c2 => ?_) (fun c2 => ?_)
    · have c2 := i_lt ha ki_0 c2
      refine lv_iconst (v := 0) hx hb dX0_hasYear_23 (by decide) ?_
      exact hret _ _ _ _ 0 () hP hD hS dX0_hasYear_24 rfl (show (((0 : Int32) = 1 ∧ 0 ≤ a0 ∧ a0 ≤ o_span.toInt) ∨ ((0 : Int32) = 0)) from (Or.inr rfl))
    · have c2 := i_nlt ha ki_0 c2
      refine lv_iload_n hx hb dX0_hasYear_11 rfl (lv_at hl 1 rfl) ?_
      refine lv_aload_n hx hb dX0_hasYear_12 rfl (lv_at hl 0 rfl) ?_
      refine va_get (D := G) (ci := 0) (v := .int o_span) (C := RX0) (T := TX0) (N := 19) hx hb hts iG_X0 hown hK hP 0 rfl rfl 1 (by decide) (hts _ w_58) (fun _ h9 => h9) rfl dX0_hasYear_13 ?_
      refine lv_icmp_gt (tgt := 23) hx hb dX0_hasYear_16 (by decide) (fun c3 => ?_) (fun c3 => ?_)
      · have c3 := i_lt rfl ha c3
        refine lv_iconst (v := 0) hx hb dX0_hasYear_23 (by decide) ?_
        exact hret _ _ _ _ 0 () hP hD hS dX0_hasYear_24 rfl (show (((0 : Int32) = 1 ∧ 0 ≤ a0 ∧ a0 ≤ o_span.toInt) ∨ ((0 : Int32) = 0)) from (Or.inr rfl))
      · have c3 := i_nlt rfl ha c3
        refine lv_iconst (v := 1) hx hb dX0_hasYear_19 (by decide) ?_
        refine lv_goto (tgt := 24) hx hb dX0_hasYear_20 (by decide) ?_
        exact hret _ _ _ _ 1 () hP hD hS dX0_hasYear_24 rfl (show (((1 : Int32) = 1 ∧ 0 ≤ a0 ∧ a0 ≤ o_span.toInt) ∨ ((1 : Int32) = 0)) from (Or.inl ⟨rfl, by omega, by omega⟩))
set_option maxHeartbeats 4000000 in
set_option maxRecDepth 100000 in
theorem f_X0_spotOf (l : Launch) (G : va_G) (cI cJ cZ cB cQ : ClassId) (sz : Nat) (h0 : Nat) (p0 : Int64) (b : Nat → Nat) (o_lines : Int32) (o_span : Int32) (o_rule : Int32) (o_odds : Int32) (o_wide : Int32) (o_high : Int32) (o_creeks : Int32) (o_houses : Int32) (o_widows : Int32) (o_acts : Int32) (hl_o_span : 0 ≤ o_span.toInt) (hh_o_span : o_span.toInt ≤ 12) (hl_o_rule : 0 ≤ o_rule.toInt) (hh_o_rule : o_rule.toInt ≤ 3) (hl_o_odds : 0 ≤ o_odds.toInt) (hh_o_odds : o_odds.toInt ≤ 10) (hl_o_wide : 0 ≤ o_wide.toInt) (hh_o_wide : o_wide.toInt ≤ 8) (hl_o_high : 0 ≤ o_high.toInt) (hh_o_high : o_high.toInt ≤ 8) (hl_o_creeks : 0 ≤ o_creeks.toInt) (hh_o_creeks : o_creeks.toInt ≤ 12) (hl_o_houses : 0 ≤ o_houses.toInt) (hh_o_houses : o_houses.toInt ≤ 6) (hl_o_widows : 0 ≤ o_widows.toInt) (hh_o_widows : o_widows.toInt ≤ 7) (hl_o_acts : 0 ≤ o_acts.toInt) (hh_o_acts : o_acts.toInt ≤ 30) : CI l yX0_spotOf (wl_ yX0_spotOf cX0_spotOf 3 (some .int)) ({ frames := 0, cells := 0, slots := 0, locals := 0 } : Room) G (TY cI cJ cZ cB cQ) [.ref h0, .long p0] [(h0, oX0 b o_lines o_span o_rule o_odds o_wide o_high o_creeks o_houses o_widows o_acts)] sz (fun (r : Int32) (u : Unit) => True) (fun _ : Unit => [(h0, oX0 b o_lines o_span o_rule o_odds o_wide o_high o_creeks o_houses o_widows o_acts)]) 0 0 := by
  refine CI.go (cc := cX0_spotOf) (maxL := 3) (ret := (some .int)) (by decide) rfl (Nat.le_of_ble_eq_true rfl) ?_
  intro p e s m below meth c A ls Q hBd hret
  obtain ⟨hx, hb, hr, hml, hts, hown, hlk, hnm, hP, hK, hD, hA, hZ, hl⟩ := hBd
  have hown : s.vm.findClass RX0 = some m.cls := hown
  have hl : lv_has ls 3 [(0, .ref h0), (1, .long p0)] := hl
  have hS : va_S A s.heap s.heap [] := va_S.rf
  refine lv_lload_n hx hb dX0_spotOf_0 rfl (lv_at hl 1 rfl) ?_
  refine lv_lconst (v := 0) hx hb dX0_spotOf_1 (by decide) ?_
  refine W.lcmp hx hb dX0_spotOf_2 ?_
  refine lv_if_lt (tgt := 34) hx hb dX0_spotOf_3 (by decide) (fun c1 => ?_) (fun c1 => ?_)
  · have c1 := c_lt rfl kl_0 c1
    refine lv_iconst (v := (-1)) hx hb dX0_spotOf_34 (by decide) ?_
    exact hret _ _ _ _ (-1) () hP hD hS dX0_spotOf_35 trivial
  · have c1 := c_nlt rfl kl_0 c1
    refine lv_lload_n hx hb dX0_spotOf_6 rfl (lv_at hl 1 rfl) ?_
    refine lv_ldc2 (v := 10) hx hb hown (hts _ w_657) dX0_spotOf_7 ?_
    refine lv_ldiv hx hb dX0_spotOf_10 (by decide) ?_
    refine lv_topl (fun v2 ev2 => ?_)
    have tv2 : v2.toInt = p0.toInt / 10 := tl_div rfl (by omega) (by decide) kl_10 ev2
    refine lv_aload_n hx hb dX0_spotOf_11 rfl (lv_at hl 0 rfl) ?_
    refine va_get (D := G) (ci := 0) (v := .int o_wide) (C := RX0) (T := TX0) (N := 19) hx hb hts iG_X0 hown hK hP 0 rfl rfl 4 (by decide) (hts _ w_71) (fun _ h9 => h9) rfl dX0_spotOf_12 ?_
    obtain ⟨v3, ev3⟩ : ∃ y : Int64, o_wide.toInt64 = y := ⟨_, rfl⟩
    have tv3 : v3.toInt = o_wide.toInt := ti_wide rfl ev3
    refine lv_i2l (v := v3) hx hb dX0_spotOf_15 ev3 ?_
    refine W.lcmp hx hb dX0_spotOf_16 ?_
    refine lv_if_ge (tgt := 34) hx hb dX0_spotOf_17 (by decide) (fun c4 => ?_) (fun c4 => ?_)
    · have c4 := c_ge tv2 tv3 c4
      refine lv_iconst (v := (-1)) hx hb dX0_spotOf_34 (by decide) ?_
      exact hret _ _ _ _ (-1) () hP hD hS dX0_spotOf_35 trivial
    · have c4 := c_nge tv2 tv3 c4
      refine lv_lload_n hx hb dX0_spotOf_20 rfl (lv_at hl 1 rfl) ?_
      refine lv_ldc2 (v := 10) hx hb hown (hts _ w_657) dX0_spotOf_21 ?_
      refine lv_lrem hx hb dX0_spotOf_24 (by decide) ?_
      refine lv_topl (fun v5 ev5 => ?_)
      have tv5 : v5.toInt = p0.toInt % 10 := tl_rem rfl (by omega) (by decide) kl_10 ev5
      refine lv_aload_n hx hb dX0_spotOf_25 rfl (lv_at hl 0 rfl) ?_
      refine va_get (D := G) (ci := 0) (v := .int o_high) (C := RX0) (T := TX0) (N := 19) hx hb hts iG_X0 hown hK hP 0 rfl rfl 5 (by decide) (hts _ w_74) (fun _ h9 => h9) rfl dX0_spotOf_26 ?_
      obtain ⟨v6, ev6⟩ : ∃ y : Int64, o_high.toInt64 = y := ⟨_, rfl⟩
      have tv6 : v6.toInt = o_high.toInt := ti_wide rfl ev6
      refine lv_i2l (v := v6) hx hb dX0_spotOf_29 ev6 ?_
      refine W.lcmp hx hb dX0_spotOf_30 ?_
      refine lv_if_lt (tgt := 36) hx hb dX0_spotOf_31 (by decide) (fun c7 => ?_) (fun c7 => ?_)
      · have c7 := c_lt tv5 tv6 c7
        refine lv_ldc2 (v := 8) hx hb hown (hts _ w_658) dX0_spotOf_36 ?_
        refine lv_lload_n hx hb dX0_spotOf_39 rfl (lv_at hl 1 rfl) ?_
        refine lv_ldc2 (v := 10) hx hb hown (hts _ w_657) dX0_spotOf_40 ?_
        refine lv_ldiv hx hb dX0_spotOf_43 (by decide) ?_
        refine lv_topl (fun v8 ev8 => ?_)
        have tv8 : v8.toInt = p0.toInt / 10 := tl_div rfl (by omega) (by decide) kl_10 ev8
        refine lv_lmul hx hb dX0_spotOf_44 ?_
        refine lv_topl (fun v9 ev9 => ?_)
        refine lv_lload_n hx hb dX0_spotOf_45 rfl (lv_at hl 1 rfl) ?_
        refine lv_ldc2 (v := 10) hx hb hown (hts _ w_657) dX0_spotOf_46 ?_
        refine lv_lrem hx hb dX0_spotOf_49 (by decide) ?_
        refine lv_topl (fun v10 ev10 => ?_)
        have tv10 : v10.toInt = p0.toInt % 10 := tl_rem rfl (by omega) (by decide) kl_10 ev10
        refine lv_ladd hx hb dX0_spotOf_50 ?_
        refine lv_topl (fun v11 ev11 => ?_)
        refine lv_l2i hx hb dX0_spotOf_51 rfl ?_
        refine lv_topi (fun v12 ev12 => ?_)
        exact hret _ _ _ _ v12 () hP hD hS dX0_spotOf_52 trivial
      · have c7 := c_nlt tv5 tv6 c7
        refine lv_iconst (v := (-1)) hx hb dX0_spotOf_34 (by decide) ?_
        exact hret _ _ _ _ (-1) () hP hD hS dX0_spotOf_35 trivial
set_option maxHeartbeats 4000000 in
set_option maxRecDepth 100000 in
theorem f_X0_field (l : Launch) (G : va_G) (cI cJ cZ cB cQ : ClassId) (sz : Nat) (h0 : Nat) (b : Nat → Nat) (o_lines : Int32) (o_span : Int32) (o_rule : Int32) (o_odds : Int32) (o_wide : Int32) (o_high : Int32) (o_creeks : Int32) (o_houses : Int32) (o_widows : Int32) (o_acts : Int32) (hl_o_span : 0 ≤ o_span.toInt) (hh_o_span : o_span.toInt ≤ 12) (hl_o_rule : 0 ≤ o_rule.toInt) (hh_o_rule : o_rule.toInt ≤ 3) (hl_o_odds : 0 ≤ o_odds.toInt) (hh_o_odds : o_odds.toInt ≤ 10) (hl_o_wide : 0 ≤ o_wide.toInt) (hh_o_wide : o_wide.toInt ≤ 8) (hl_o_high : 0 ≤ o_high.toInt) (hh_o_high : o_high.toInt ≤ 8) (hl_o_creeks : 0 ≤ o_creeks.toInt) (hh_o_creeks : o_creeks.toInt ≤ 12) (hl_o_houses : 0 ≤ o_houses.toInt) (hh_o_houses : o_houses.toInt ≤ 6) (hl_o_widows : 0 ≤ o_widows.toInt) (hh_o_widows : o_widows.toInt ≤ 7) (hl_o_acts : 0 ≤ o_acts.toInt) (hh_o_acts : o_acts.toInt ≤ 30) : CL l yX0_field (wl_ yX0_field cX0_field 4 (some .long)) ({ frames := 0, cells := 0, slots := 0, locals := 0 } : Room) G (TY cI cJ cZ cB cQ) [.ref h0] [(h0, oX0 b o_lines o_span o_rule o_odds o_wide o_high o_creeks o_houses o_widows o_acts)] sz (fun (r : Int64) (u : Unit) => True) (fun _ : Unit => [(h0, oX0 b o_lines o_span o_rule o_odds o_wide o_high o_creeks o_houses o_widows o_acts)]) 0 0 := by
  refine CL.go (cc := cX0_field) (maxL := 4) (ret := (some .long)) (by decide) rfl (Nat.le_of_ble_eq_true rfl) ?_
  intro p e s m below meth c A ls Q hBd hret
  obtain ⟨hx, hb, hr, hml, hts, hown, hlk, hnm, hP, hK, hD, hA, hZ, hl⟩ := hBd
  have hown : s.vm.findClass RX0 = some m.cls := hown
  have hl : lv_has ls 4 [(0, .ref h0)] := hl
  have hS : va_S A s.heap s.heap [] := va_S.rf
  refine lv_lconst (v := 0) hx hb dX0_field_0 (by decide) ?_
  refine lv_lstore_n (lv' := [(1, .long 0), (0, .ref h0)]) hx hb dX0_field_1 rfl hl (by decide) rfl (fun ls hl => ?_)
  refine lv_iconst (v := 0) hx hb dX0_field_2 (by decide) ?_
  refine lv_istore_n (lv' := [(3, .int 0), (1, .long 0), (0, .ref h0)]) hx hb dX0_field_3 rfl hl (by decide) rfl (fun ls hl => ?_)
  have lp1 : ∀ (n2 : Nat) (x3 : Int32) (y4 : Int64), 0 ≤ x3.toInt → x3.toInt ≤ 8 → 8 - x3.toInt < (n2 : Int) → ∀ (H : Heap) (locs : List Loc), va_P G vwCl [(h0, oX0 b o_lines o_span o_rule o_odds o_wide o_high o_creeks o_houses o_widows o_acts)] H → va_D A [(h0, oX0 b o_lines o_span o_rule o_odds o_wide o_high o_creeks o_houses o_widows o_acts)] → va_S A s.heap H locs → ∀ (ls : Array Slot), lv_has ls 4 [(3, .int x3), (1, .long y4), (0, .ref h0)] → W p l e ({ frames := 0, cells := 0, slots := 0, locals := 0 } : Room) s m ([.ref h0] : List Value).toArray below meth c H locs 0 0 Q (F0 m 4 ls []) := by
    intro n2
    induction n2 with
    | zero =>
      intro x3 y4 k5 k6 mm8
      exact absurd mm8 (by have q9 := fb_rng x3; omega)
    | succ n2 ih7 =>
      intro x3 y4 k5 k6 mm8 H locs hP hD hS ls hl
      refine lv_iload_n hx hb dX0_field_4 rfl (lv_at hl 0 rfl) ?_
      refine lv_aload_n hx hb dX0_field_5 rfl (lv_at hl 2 rfl) ?_
      refine va_get (D := G) (ci := 0) (v := .int o_wide) (C := RX0) (T := TX0) (N := 19) hx hb hts iG_X0 hown hK hP 0 rfl rfl 4 (by decide) (hts _ w_71) (fun _ h9 => h9) rfl dX0_field_6 ?_
      refine lv_icmp_ge (tgt := 34) hx hb dX0_field_9 (by decide) (fun c9 => ?_) (fun c9 => ?_)
      · have c9 := i_le rfl rfl c9
        refine lv_lload_n hx hb dX0_field_34 rfl (lv_at hl 1 rfl) ?_
        exact hret _ _ _ _ y4 () hP hD hS dX0_field_35 trivial
      · have c9 := i_nle rfl rfl c9
        refine lv_lload_n hx hb dX0_field_12 rfl (lv_at hl 1 rfl) ?_
        refine lv_lconst (v := 1) hx hb dX0_field_13 (by decide) ?_
        refine lv_aload_n hx hb dX0_field_14 rfl (lv_at hl 2 rfl) ?_
        refine va_get (D := G) (ci := 0) (v := .int o_high) (C := RX0) (T := TX0) (N := 19) hx hb hts iG_X0 hown hK hP 0 rfl rfl 5 (by decide) (hts _ w_74) (fun _ h9 => h9) rfl dX0_field_15 ?_
        refine lv_lshl hx hb dX0_field_18 rfl ?_
        refine lv_topl (fun v10 ev10 => ?_)
        refine lv_lconst (v := 1) hx hb dX0_field_19 (by decide) ?_
        refine lv_lsub hx hb dX0_field_20 ?_
        refine lv_topl (fun v11 ev11 => ?_)
        refine lv_bipush (v := 8) hx hb dX0_field_21 (by decide) ?_
        refine lv_iload_n hx hb dX0_field_23 rfl (lv_at hl 0 rfl) ?_
        refine lv_imul hx hb dX0_field_24 ?_
        refine lv_topi (fun v12 ev12 => ?_)
        have tv12 : v12.toInt = 8 * x3.toInt := ti_mul ki_8 rfl ev12 (by omega) (by omega)
        refine lv_lshl hx hb dX0_field_25 rfl ?_
        refine lv_topl (fun v13 ev13 => ?_)
        refine lv_lor hx hb dX0_field_26 ?_
        refine lv_topl (fun v14 ev14 => ?_)
        refine lv_lstore_n (lv' := [(1, .long v14), (3, .int x3), (0, .ref h0)]) hx hb dX0_field_27 rfl hl (by decide) rfl (fun ls hl => ?_)
        obtain ⟨v15, ev15⟩ : ∃ y : Int32, y = x3 + 1 := ⟨_, rfl⟩
        have tv15 : v15.toInt = x3.toInt + 1 := ti_add rfl ki_1 ev15 (by omega) (by omega)
        refine lv_iinc (v := v15) (lv' := [(3, .int v15), (1, .long v14), (0, .ref h0)]) hx hb dX0_field_28 hl (k := 1) rfl (by rw [ev15]; rfl) (by decide) rfl (fun ls hl => ?_)
        refine lv_goto (tgt := 4) hx hb dX0_field_31 (by decide) ?_
        exact ih7 v15 v14 (by omega) (by omega) (by omega) _ _ hP hD hS ls (lv_sub hl [0, 1, 2] rfl)
  exact lp1 9 0 0 (by rw [ki_0]; decide) (by rw [ki_0]; decide) (by rw [ki_0]; decide) _ _ hP hD hS ls (lv_sub hl [0, 1, 2] rfl)
set_option maxHeartbeats 4000000 in
set_option maxRecDepth 100000 in
theorem f_X0_creekBits (l : Launch) (G : va_G) (cI cJ cZ cB cQ : ClassId) (sz : Nat) (h0 : Nat) (b : Nat → Nat) (o_lines : Int32) (o_span : Int32) (o_rule : Int32) (o_odds : Int32) (o_wide : Int32) (o_high : Int32) (o_creeks : Int32) (o_houses : Int32) (o_widows : Int32) (o_acts : Int32) (o_f10 : Nat → Int32) (o_f18 : Nat → Int32) (hl_o_span : 0 ≤ o_span.toInt) (hh_o_span : o_span.toInt ≤ 12) (hl_o_rule : 0 ≤ o_rule.toInt) (hh_o_rule : o_rule.toInt ≤ 3) (hl_o_odds : 0 ≤ o_odds.toInt) (hh_o_odds : o_odds.toInt ≤ 10) (hl_o_wide : 0 ≤ o_wide.toInt) (hh_o_wide : o_wide.toInt ≤ 8) (hl_o_high : 0 ≤ o_high.toInt) (hh_o_high : o_high.toInt ≤ 8) (hl_o_creeks : 0 ≤ o_creeks.toInt) (hh_o_creeks : o_creeks.toInt ≤ 12) (hl_o_houses : 0 ≤ o_houses.toInt) (hh_o_houses : o_houses.toInt ≤ 6) (hl_o_widows : 0 ≤ o_widows.toInt) (hh_o_widows : o_widows.toInt ≤ 7) (hl_o_acts : 0 ≤ o_acts.toInt) (hh_o_acts : o_acts.toInt ≤ 30) : CL l yX0_creekBits (wl_ yX0_creekBits cX0_creekBits 4 (some .long)) ({ frames := 1, cells := 0, slots := 0, locals := 20 } : Room) G (TY cI cJ cZ cB cQ) [.ref h0] [(h0, oX0 b o_lines o_span o_rule o_odds o_wide o_high o_creeks o_houses o_widows o_acts), (b 10, .inl (cI, 12, .inl o_f10)), (b 18, .inl (cI, 30, .inl o_f18))] sz (fun (r : Int64) (u : Unit) => True) (fun _ : Unit => [(h0, oX0 b o_lines o_span o_rule o_odds o_wide o_high o_creeks o_houses o_widows o_acts), (b 10, .inl (cI, 12, .inl o_f10)), (b 18, .inl (cI, 30, .inl o_f18))]) 0 0 := by
  refine CL.go (cc := cX0_creekBits) (maxL := 4) (ret := (some .long)) (by decide) rfl (Nat.le_of_ble_eq_true rfl) ?_
  intro p e s m below meth c A ls Q hBd hret
  obtain ⟨hx, hb, hr, hml, hts, hown, hlk, hnm, hP, hK, hD, hA, hZ, hl⟩ := hBd
  have hown : s.vm.findClass RX0 = some m.cls := hown
  have hl : lv_has ls 4 [(0, .ref h0)] := hl
  have hS : va_S A s.heap s.heap [] := va_S.rf
  refine lv_lconst (v := 0) hx hb dX0_creekBits_0 (by decide) ?_
  refine lv_lstore_n (lv' := [(1, .long 0), (0, .ref h0)]) hx hb dX0_creekBits_1 rfl hl (by decide) rfl (fun ls hl => ?_)
  refine lv_iconst (v := 0) hx hb dX0_creekBits_2 (by decide) ?_
  refine lv_istore_n (lv' := [(3, .int 0), (1, .long 0), (0, .ref h0)]) hx hb dX0_creekBits_3 rfl hl (by decide) rfl (fun ls hl => ?_)
  have lp1 : ∀ (n2 : Nat) (x3 : Int32) (y4 : Int64), 0 ≤ x3.toInt → x3.toInt ≤ 12 → 12 - x3.toInt < (n2 : Int) → ∀ (H : Heap) (locs : List Loc), va_P G vwCl [(h0, oX0 b o_lines o_span o_rule o_odds o_wide o_high o_creeks o_houses o_widows o_acts), (b 10, .inl (cI, 12, .inl o_f10)), (b 18, .inl (cI, 30, .inl o_f18))] H → va_D A [(h0, oX0 b o_lines o_span o_rule o_odds o_wide o_high o_creeks o_houses o_widows o_acts), (b 10, .inl (cI, 12, .inl o_f10)), (b 18, .inl (cI, 30, .inl o_f18))] → va_S A s.heap H locs → ∀ (ls : Array Slot), lv_has ls 4 [(3, .int x3), (1, .long y4), (0, .ref h0)] → W p l e ({ frames := 1, cells := 0, slots := 0, locals := 20 } : Room) s m ([.ref h0] : List Value).toArray below meth c H locs 0 0 Q (F0 m 4 ls []) := by
    intro n2
    induction n2 with
    | zero =>
      intro x3 y4 k5 k6 mm8
      exact absurd mm8 (by have q9 := fb_rng x3; omega)
    | succ n2 ih7 =>
      intro x3 y4 k5 k6 mm8 H locs hP hD hS ls hl
      refine lv_iload_n hx hb dX0_creekBits_4 rfl (lv_at hl 0 rfl) ?_
      refine lv_aload_n hx hb dX0_creekBits_5 rfl (lv_at hl 2 rfl) ?_
      refine va_get (D := G) (ci := 0) (v := .int o_creeks) (C := RX0) (T := TX0) (N := 19) hx hb hts iG_X0 hown hK hP 0 rfl rfl 6 (by decide) (hts _ w_77) (fun _ h9 => h9) rfl dX0_creekBits_6 ?_
      refine lv_icmp_ge (tgt := 30) hx hb dX0_creekBits_9 (by decide) (fun c9 => ?_) (fun c9 => ?_)
      · have c9 := i_le rfl rfl c9
        refine lv_iconst (v := 0) hx hb dX0_creekBits_30 (by decide) ?_
        refine lv_istore_n (lv' := [(3, .int 0), (1, .long y4), (0, .ref h0)]) hx hb dX0_creekBits_31 rfl hl (by decide) rfl (fun ls hl => ?_)
        have lp10 : ∀ (n11 : Nat) (x12 : Int32) (y13 : Int64), 0 ≤ x12.toInt → x12.toInt ≤ 30 → 30 - x12.toInt < (n11 : Int) → ∀ (H : Heap) (locs : List Loc), va_P G vwCl [(h0, oX0 b o_lines o_span o_rule o_odds o_wide o_high o_creeks o_houses o_widows o_acts), (b 10, .inl (cI, 12, .inl o_f10)), (b 18, .inl (cI, 30, .inl o_f18))] H → va_D A [(h0, oX0 b o_lines o_span o_rule o_odds o_wide o_high o_creeks o_houses o_widows o_acts), (b 10, .inl (cI, 12, .inl o_f10)), (b 18, .inl (cI, 30, .inl o_f18))] → va_S A s.heap H locs → ∀ (ls : Array Slot), lv_has ls 4 [(3, .int x12), (1, .long y13), (0, .ref h0)] → W p l e ({ frames := 1, cells := 0, slots := 0, locals := 20 } : Room) s m ([.ref h0] : List Value).toArray below meth c H locs 0 0 Q (F0 m 32 ls []) := by
          intro n11
          induction n11 with
          | zero =>
            intro x12 y13 k14 k15 mm17
            exact absurd mm17 (by have q9 := fb_rng x12; omega)
          | succ n11 ih16 =>
            intro x12 y13 k14 k15 mm17 H locs hP hD hS ls hl
            refine lv_iload_n hx hb dX0_creekBits_32 rfl (lv_at hl 0 rfl) ?_
            refine lv_aload_n hx hb dX0_creekBits_33 rfl (lv_at hl 2 rfl) ?_
            refine va_get (D := G) (ci := 0) (v := .int o_acts) (C := RX0) (T := TX0) (N := 19) hx hb hts iG_X0 hown hK hP 0 rfl rfl 9 (by decide) (hts _ w_89) (fun _ h9 => h9) rfl dX0_creekBits_34 ?_
            refine lv_icmp_ge (tgt := 73) hx hb dX0_creekBits_37 (by decide) (fun c18 => ?_) (fun c18 => ?_)
            · have c18 := i_le rfl rfl c18
              refine lv_lload_n hx hb dX0_creekBits_73 rfl (lv_at hl 1 rfl) ?_
              exact hret _ _ _ _ y13 () hP hD hS dX0_creekBits_74 trivial
            · have c18 := i_nle rfl rfl c18
              refine lv_aload_n hx hb dX0_creekBits_40 rfl (lv_at hl 2 rfl) ?_
              refine va_get (D := G) (ci := 0) (v := .ref (b 18)) (C := RX0) (T := TX0) (N := 19) hx hb hts iG_X0 hown hK hP 0 rfl rfl 18 (by decide) (hts _ w_121) (fun _ h9 => h9) rfl dX0_creekBits_41 ?_
              refine lv_iload_n hx hb dX0_creekBits_44 rfl (lv_at hl 0 rfl) ?_
              refine va_iald hx hb hK hP 2 0 rfl rfl (ix_in rfl (by omega) (by omega)) dX0_creekBits_45 ?_
              refine lv_topi (fun v19 ev19 => ?_)
              refine lv_bipush (v := 64) hx hb dX0_creekBits_46 (by decide) ?_
              refine lv_icmp_ge (tgt := 67) hx hb dX0_creekBits_48 (by decide) (fun c20 => ?_) (fun c20 => ?_)
              · have c20 := i_le ki_64 rfl c20
                obtain ⟨v21, ev21⟩ : ∃ y : Int32, y = x12 + 1 := ⟨_, rfl⟩
                have tv21 : v21.toInt = x12.toInt + 1 := ti_add rfl ki_1 ev21 (by omega) (by omega)
                refine lv_iinc (v := v21) (lv' := [(3, .int v21), (1, .long y13), (0, .ref h0)]) hx hb dX0_creekBits_67 hl (k := 0) rfl (by rw [ev21]; rfl) (by decide) rfl (fun ls hl => ?_)
                refine lv_goto (tgt := 32) hx hb dX0_creekBits_70 (by decide) ?_
                exact ih16 v21 y13 (by omega) (by omega) (by omega) _ _ hP hD hS ls (lv_sub hl [0, 1, 2] rfl)
              · have c20 := i_nle ki_64 rfl c20
                refine lv_lload_n hx hb dX0_creekBits_51 rfl (lv_at hl 1 rfl) ?_
                refine lv_aload_n hx hb dX0_creekBits_52 rfl (lv_at hl 2 rfl) ?_
                refine va_get (D := G) (ci := 0) (v := .ref (b 18)) (C := RX0) (T := TX0) (N := 19) hx hb hts iG_X0 hown hK hP 0 rfl rfl 18 (by decide) (hts _ w_121) (fun _ h9 => h9) rfl dX0_creekBits_53 ?_
                refine lv_iload_n hx hb dX0_creekBits_56 rfl (lv_at hl 0 rfl) ?_
                refine va_iald hx hb hK hP 2 0 rfl rfl (ix_in rfl (by omega) (by omega)) dX0_creekBits_57 ?_
                refine lv_topi (fun v22 ev22 => ?_)
                refine k_l (wc := []) (wr := [(h0, oX0 b o_lines o_span o_rule o_odds o_wide o_high o_creeks o_houses o_widows o_acts), (b 10, .inl (cI, 12, .inl o_f10)), (b 18, .inl (cI, 30, .inl o_f18))]) hP hD hS hA [] [0, 1, 2] rfl rfl rfl (by decide) (va_runSN (As := [.int v22]) (rest := [.long y13]) ⟨hx, hb, hml, hown, hts⟩ (f_X9_bit l G cI cJ cZ cB cQ _ v22) ⟨va_cnB (host := "WidowRoads") 1 hts (gW w_519) rfl rfl rfl (nz_nw hZ nw_517 rfl) (hts _ w_1) hd_X9_bit ⟨Nat.le_of_ble_eq_true rfl, Nat.le_of_ble_eq_true rfl⟩, (hts _ w_518), trivial⟩ (mS hK hZ hP hD [] rfl rfl [.int v22]) rfl rfl hl.1 rfl (lv_room (Nat.le_of_ble_eq_true rfl)) dX0_creekBits_58 ⟨Nat.le_of_ble_eq_true rfl, Nat.le_of_ble_eq_true rfl⟩) (fun r23 u24 H locs hw25 hP hD hS => ?_)
                try dsimp only at hw25
                have hP : va_P G vwCl [(h0, oX0 b o_lines o_span o_rule o_odds o_wide o_high o_creeks o_houses o_widows o_acts), (b 10, .inl (cI, 12, .inl o_f10)), (b 18, .inl (cI, 30, .inl o_f18))] H := hP
                have hD : va_D A [(h0, oX0 b o_lines o_span o_rule o_odds o_wide o_high o_creeks o_houses o_widows o_acts), (b 10, .inl (cI, 12, .inl o_f10)), (b 18, .inl (cI, 30, .inl o_f18))] := hD
                refine lv_ldc2 (v := (-1)) hx hb hown (hts _ w_520) dX0_creekBits_61 ?_
                refine lv_lxor hx hb dX0_creekBits_64 ?_
                refine lv_topl (fun v26 ev26 => ?_)
                refine lv_land hx hb dX0_creekBits_65 ?_
                refine lv_topl (fun v27 ev27 => ?_)
                refine lv_lstore_n (lv' := [(1, .long v27), (3, .int x12), (0, .ref h0)]) hx hb dX0_creekBits_66 rfl hl (by decide) rfl (fun ls hl => ?_)
                obtain ⟨v28, ev28⟩ : ∃ y : Int32, y = x12 + 1 := ⟨_, rfl⟩
                have tv28 : v28.toInt = x12.toInt + 1 := ti_add rfl ki_1 ev28 (by omega) (by omega)
                refine lv_iinc (v := v28) (lv' := [(3, .int v28), (1, .long v27), (0, .ref h0)]) hx hb dX0_creekBits_67 hl (k := 1) rfl (by rw [ev28]; rfl) (by decide) rfl (fun ls hl => ?_)
                refine lv_goto (tgt := 32) hx hb dX0_creekBits_70 (by decide) ?_
                exact ih16 v28 v27 (by omega) (by omega) (by omega) _ _ hP hD hS ls (lv_sub hl [0, 1, 2] rfl)
        exact lp10 31 0 y4 (by rw [ki_0]; decide) (by rw [ki_0]; decide) (by rw [ki_0]; decide) _ _ hP hD hS ls (lv_sub hl [0, 1, 2] rfl)
      · have c9 := i_nle rfl rfl c9
        refine lv_lload_n hx hb dX0_creekBits_12 rfl (lv_at hl 1 rfl) ?_
        refine lv_aload_n hx hb dX0_creekBits_13 rfl (lv_at hl 2 rfl) ?_
        refine va_get (D := G) (ci := 0) (v := .ref (b 10)) (C := RX0) (T := TX0) (N := 19) hx hb hts iG_X0 hown hK hP 0 rfl rfl 10 (by decide) (hts _ w_91) (fun _ h9 => h9) rfl dX0_creekBits_14 ?_
        refine lv_iload_n hx hb dX0_creekBits_17 rfl (lv_at hl 0 rfl) ?_
        refine va_iald hx hb hK hP 1 0 rfl rfl (ix_in rfl (by omega) (by omega)) dX0_creekBits_18 ?_
        refine lv_topi (fun v29 ev29 => ?_)
        refine k_l (wc := []) (wr := [(h0, oX0 b o_lines o_span o_rule o_odds o_wide o_high o_creeks o_houses o_widows o_acts), (b 10, .inl (cI, 12, .inl o_f10)), (b 18, .inl (cI, 30, .inl o_f18))]) hP hD hS hA [] [0, 1, 2] rfl rfl rfl (by decide) (va_runSN (As := [.int v29]) (rest := [.long y4]) ⟨hx, hb, hml, hown, hts⟩ (f_X9_bit l G cI cJ cZ cB cQ _ v29) ⟨va_cnB (host := "WidowRoads") 1 hts (gW w_519) rfl rfl rfl (nz_nw hZ nw_517 rfl) (hts _ w_1) hd_X9_bit ⟨Nat.le_of_ble_eq_true rfl, Nat.le_of_ble_eq_true rfl⟩, (hts _ w_518), trivial⟩ (mS hK hZ hP hD [] rfl rfl [.int v29]) rfl rfl hl.1 rfl (lv_room (Nat.le_of_ble_eq_true rfl)) dX0_creekBits_19 ⟨Nat.le_of_ble_eq_true rfl, Nat.le_of_ble_eq_true rfl⟩) (fun r30 u31 H locs hw32 hP hD hS => ?_)
        try dsimp only at hw32
        have hP : va_P G vwCl [(h0, oX0 b o_lines o_span o_rule o_odds o_wide o_high o_creeks o_houses o_widows o_acts), (b 10, .inl (cI, 12, .inl o_f10)), (b 18, .inl (cI, 30, .inl o_f18))] H := hP
        have hD : va_D A [(h0, oX0 b o_lines o_span o_rule o_odds o_wide o_high o_creeks o_houses o_widows o_acts), (b 10, .inl (cI, 12, .inl o_f10)), (b 18, .inl (cI, 30, .inl o_f18))] := hD
        refine lv_lor hx hb dX0_creekBits_22 ?_
        refine lv_topl (fun v33 ev33 => ?_)
        refine lv_lstore_n (lv' := [(1, .long v33), (3, .int x3), (0, .ref h0)]) hx hb dX0_creekBits_23 rfl hl (by decide) rfl (fun ls hl => ?_)
        obtain ⟨v34, ev34⟩ : ∃ y : Int32, y = x3 + 1 := ⟨_, rfl⟩
        have tv34 : v34.toInt = x3.toInt + 1 := ti_add rfl ki_1 ev34 (by omega) (by omega)
        refine lv_iinc (v := v34) (lv' := [(3, .int v34), (1, .long v33), (0, .ref h0)]) hx hb dX0_creekBits_24 hl (k := 1) rfl (by rw [ev34]; rfl) (by decide) rfl (fun ls hl => ?_)
        refine lv_goto (tgt := 4) hx hb dX0_creekBits_27 (by decide) ?_
        exact ih7 v34 v33 (by omega) (by omega) (by omega) _ _ hP hD hS ls (lv_sub hl [0, 1, 2] rfl)
  exact lp1 13 0 0 (by rw [ki_0]; decide) (by rw [ki_0]; decide) (by rw [ki_0]; decide) _ _ hP hD hS ls (lv_sub hl [0, 1, 2] rfl)
set_option maxHeartbeats 4000000 in
set_option maxRecDepth 100000 in
theorem f_X0_houseBits (l : Launch) (G : va_G) (cI cJ cZ cB cQ : ClassId) (sz : Nat) (h0 : Nat) (b : Nat → Nat) (o_lines : Int32) (o_span : Int32) (o_rule : Int32) (o_odds : Int32) (o_wide : Int32) (o_high : Int32) (o_creeks : Int32) (o_houses : Int32) (o_widows : Int32) (o_acts : Int32) (o_f11 : Nat → Int32) (hl_o_span : 0 ≤ o_span.toInt) (hh_o_span : o_span.toInt ≤ 12) (hl_o_rule : 0 ≤ o_rule.toInt) (hh_o_rule : o_rule.toInt ≤ 3) (hl_o_odds : 0 ≤ o_odds.toInt) (hh_o_odds : o_odds.toInt ≤ 10) (hl_o_wide : 0 ≤ o_wide.toInt) (hh_o_wide : o_wide.toInt ≤ 8) (hl_o_high : 0 ≤ o_high.toInt) (hh_o_high : o_high.toInt ≤ 8) (hl_o_creeks : 0 ≤ o_creeks.toInt) (hh_o_creeks : o_creeks.toInt ≤ 12) (hl_o_houses : 0 ≤ o_houses.toInt) (hh_o_houses : o_houses.toInt ≤ 6) (hl_o_widows : 0 ≤ o_widows.toInt) (hh_o_widows : o_widows.toInt ≤ 7) (hl_o_acts : 0 ≤ o_acts.toInt) (hh_o_acts : o_acts.toInt ≤ 30) : CL l yX0_houseBits (wl_ yX0_houseBits cX0_houseBits 4 (some .long)) ({ frames := 1, cells := 0, slots := 0, locals := 20 } : Room) G (TY cI cJ cZ cB cQ) [.ref h0] [(h0, oX0 b o_lines o_span o_rule o_odds o_wide o_high o_creeks o_houses o_widows o_acts), (b 11, .inl (cI, 6, .inl o_f11))] sz (fun (r : Int64) (u : Unit) => True) (fun _ : Unit => [(h0, oX0 b o_lines o_span o_rule o_odds o_wide o_high o_creeks o_houses o_widows o_acts), (b 11, .inl (cI, 6, .inl o_f11))]) 0 0 := by
  refine CL.go (cc := cX0_houseBits) (maxL := 4) (ret := (some .long)) (by decide) rfl (Nat.le_of_ble_eq_true rfl) ?_
  intro p e s m below meth c A ls Q hBd hret
  obtain ⟨hx, hb, hr, hml, hts, hown, hlk, hnm, hP, hK, hD, hA, hZ, hl⟩ := hBd
  have hown : s.vm.findClass RX0 = some m.cls := hown
  have hl : lv_has ls 4 [(0, .ref h0)] := hl
  have hS : va_S A s.heap s.heap [] := va_S.rf
  refine lv_lconst (v := 0) hx hb dX0_houseBits_0 (by decide) ?_
  refine lv_lstore_n (lv' := [(1, .long 0), (0, .ref h0)]) hx hb dX0_houseBits_1 rfl hl (by decide) rfl (fun ls hl => ?_)
  refine lv_iconst (v := 0) hx hb dX0_houseBits_2 (by decide) ?_
  refine lv_istore_n (lv' := [(3, .int 0), (1, .long 0), (0, .ref h0)]) hx hb dX0_houseBits_3 rfl hl (by decide) rfl (fun ls hl => ?_)
  have lp1 : ∀ (n2 : Nat) (x3 : Int32) (y4 : Int64), 0 ≤ x3.toInt → x3.toInt ≤ 6 → 6 - x3.toInt < (n2 : Int) → ∀ (H : Heap) (locs : List Loc), va_P G vwCl [(h0, oX0 b o_lines o_span o_rule o_odds o_wide o_high o_creeks o_houses o_widows o_acts), (b 11, .inl (cI, 6, .inl o_f11))] H → va_D A [(h0, oX0 b o_lines o_span o_rule o_odds o_wide o_high o_creeks o_houses o_widows o_acts), (b 11, .inl (cI, 6, .inl o_f11))] → va_S A s.heap H locs → ∀ (ls : Array Slot), lv_has ls 4 [(3, .int x3), (1, .long y4), (0, .ref h0)] → W p l e ({ frames := 1, cells := 0, slots := 0, locals := 20 } : Room) s m ([.ref h0] : List Value).toArray below meth c H locs 0 0 Q (F0 m 4 ls []) := by
    intro n2
    induction n2 with
    | zero =>
      intro x3 y4 k5 k6 mm8
      exact absurd mm8 (by have q9 := fb_rng x3; omega)
    | succ n2 ih7 =>
      intro x3 y4 k5 k6 mm8 H locs hP hD hS ls hl
      refine lv_iload_n hx hb dX0_houseBits_4 rfl (lv_at hl 0 rfl) ?_
      refine lv_aload_n hx hb dX0_houseBits_5 rfl (lv_at hl 2 rfl) ?_
      refine va_get (D := G) (ci := 0) (v := .int o_houses) (C := RX0) (T := TX0) (N := 19) hx hb hts iG_X0 hown hK hP 0 rfl rfl 7 (by decide) (hts _ w_80) (fun _ h9 => h9) rfl dX0_houseBits_6 ?_
      refine lv_icmp_ge (tgt := 30) hx hb dX0_houseBits_9 (by decide) (fun c9 => ?_) (fun c9 => ?_)
      · have c9 := i_le rfl rfl c9
        refine lv_lload_n hx hb dX0_houseBits_30 rfl (lv_at hl 1 rfl) ?_
        exact hret _ _ _ _ y4 () hP hD hS dX0_houseBits_31 trivial
      · have c9 := i_nle rfl rfl c9
        refine lv_lload_n hx hb dX0_houseBits_12 rfl (lv_at hl 1 rfl) ?_
        refine lv_aload_n hx hb dX0_houseBits_13 rfl (lv_at hl 2 rfl) ?_
        refine va_get (D := G) (ci := 0) (v := .ref (b 11)) (C := RX0) (T := TX0) (N := 19) hx hb hts iG_X0 hown hK hP 0 rfl rfl 11 (by decide) (hts _ w_94) (fun _ h9 => h9) rfl dX0_houseBits_14 ?_
        refine lv_iload_n hx hb dX0_houseBits_17 rfl (lv_at hl 0 rfl) ?_
        refine va_iald hx hb hK hP 1 0 rfl rfl (ix_in rfl (by omega) (by omega)) dX0_houseBits_18 ?_
        refine lv_topi (fun v10 ev10 => ?_)
        refine k_l (wc := []) (wr := [(h0, oX0 b o_lines o_span o_rule o_odds o_wide o_high o_creeks o_houses o_widows o_acts), (b 11, .inl (cI, 6, .inl o_f11))]) hP hD hS hA [] [0, 1] rfl rfl rfl (by decide) (va_runSN (As := [.int v10]) (rest := [.long y4]) ⟨hx, hb, hml, hown, hts⟩ (f_X9_bit l G cI cJ cZ cB cQ _ v10) ⟨va_cnB (host := "WidowRoads") 1 hts (gW w_519) rfl rfl rfl (nz_nw hZ nw_517 rfl) (hts _ w_1) hd_X9_bit ⟨Nat.le_of_ble_eq_true rfl, Nat.le_of_ble_eq_true rfl⟩, (hts _ w_518), trivial⟩ (mS hK hZ hP hD [] rfl rfl [.int v10]) rfl rfl hl.1 rfl (lv_room (Nat.le_of_ble_eq_true rfl)) dX0_houseBits_19 ⟨Nat.le_of_ble_eq_true rfl, Nat.le_of_ble_eq_true rfl⟩) (fun r11 u12 H locs hw13 hP hD hS => ?_)
        try dsimp only at hw13
        have hP : va_P G vwCl [(h0, oX0 b o_lines o_span o_rule o_odds o_wide o_high o_creeks o_houses o_widows o_acts), (b 11, .inl (cI, 6, .inl o_f11))] H := hP
        have hD : va_D A [(h0, oX0 b o_lines o_span o_rule o_odds o_wide o_high o_creeks o_houses o_widows o_acts), (b 11, .inl (cI, 6, .inl o_f11))] := hD
        refine lv_lor hx hb dX0_houseBits_22 ?_
        refine lv_topl (fun v14 ev14 => ?_)
        refine lv_lstore_n (lv' := [(1, .long v14), (3, .int x3), (0, .ref h0)]) hx hb dX0_houseBits_23 rfl hl (by decide) rfl (fun ls hl => ?_)
        obtain ⟨v15, ev15⟩ : ∃ y : Int32, y = x3 + 1 := ⟨_, rfl⟩
        have tv15 : v15.toInt = x3.toInt + 1 := ti_add rfl ki_1 ev15 (by omega) (by omega)
        refine lv_iinc (v := v15) (lv' := [(3, .int v15), (1, .long v14), (0, .ref h0)]) hx hb dX0_houseBits_24 hl (k := 1) rfl (by rw [ev15]; rfl) (by decide) rfl (fun ls hl => ?_)
        refine lv_goto (tgt := 4) hx hb dX0_houseBits_27 (by decide) ?_
        exact ih7 v15 v14 (by omega) (by omega) (by omega) _ _ hP hD hS ls (lv_sub hl [0, 1, 2] rfl)
  exact lp1 7 0 0 (by rw [ki_0]; decide) (by rw [ki_0]; decide) (by rw [ki_0]; decide) _ _ hP hD hS ls (lv_sub hl [0, 1, 2] rfl)
set_option maxHeartbeats 4000000 in
set_option maxRecDepth 100000 in
theorem f_X0_walkerBits (l : Launch) (G : va_G) (cI cJ cZ cB cQ : ClassId) (sz : Nat) (h0 : Nat) (b : Nat → Nat) (o_lines : Int32) (o_span : Int32) (o_rule : Int32) (o_odds : Int32) (o_wide : Int32) (o_high : Int32) (o_creeks : Int32) (o_houses : Int32) (o_widows : Int32) (o_acts : Int32) (o_f18 : Nat → Int32) (hl_o_span : 0 ≤ o_span.toInt) (hh_o_span : o_span.toInt ≤ 12) (hl_o_rule : 0 ≤ o_rule.toInt) (hh_o_rule : o_rule.toInt ≤ 3) (hl_o_odds : 0 ≤ o_odds.toInt) (hh_o_odds : o_odds.toInt ≤ 10) (hl_o_wide : 0 ≤ o_wide.toInt) (hh_o_wide : o_wide.toInt ≤ 8) (hl_o_high : 0 ≤ o_high.toInt) (hh_o_high : o_high.toInt ≤ 8) (hl_o_creeks : 0 ≤ o_creeks.toInt) (hh_o_creeks : o_creeks.toInt ≤ 12) (hl_o_houses : 0 ≤ o_houses.toInt) (hh_o_houses : o_houses.toInt ≤ 6) (hl_o_widows : 0 ≤ o_widows.toInt) (hh_o_widows : o_widows.toInt ≤ 7) (hl_o_acts : 0 ≤ o_acts.toInt) (hh_o_acts : o_acts.toInt ≤ 30) : CI l yX0_walkerBits (wl_ yX0_walkerBits cX0_walkerBits 3 (some .int)) ({ frames := 0, cells := 0, slots := 0, locals := 0 } : Room) G (TY cI cJ cZ cB cQ) [.ref h0] [(h0, oX0 b o_lines o_span o_rule o_odds o_wide o_high o_creeks o_houses o_widows o_acts), (b 18, .inl (cI, 30, .inl o_f18))] sz (fun (r : Int32) (u : Unit) => True) (fun _ : Unit => [(h0, oX0 b o_lines o_span o_rule o_odds o_wide o_high o_creeks o_houses o_widows o_acts), (b 18, .inl (cI, 30, .inl o_f18))]) 0 0 := by
  refine CI.go (cc := cX0_walkerBits) (maxL := 3) (ret := (some .int)) (by decide) rfl (Nat.le_of_ble_eq_true rfl) ?_
  intro p e s m below meth c A ls Q hBd hret
  obtain ⟨hx, hb, hr, hml, hts, hown, hlk, hnm, hP, hK, hD, hA, hZ, hl⟩ := hBd
  have hown : s.vm.findClass RX0 = some m.cls := hown
  have hl : lv_has ls 3 [(0, .ref h0)] := hl
  have hS : va_S A s.heap s.heap [] := va_S.rf
  refine lv_iconst (v := 1) hx hb dX0_walkerBits_0 (by decide) ?_
  refine lv_aload_n hx hb dX0_walkerBits_1 rfl (lv_at hl 0 rfl) ?_
  refine va_get (D := G) (ci := 0) (v := .int o_widows) (C := RX0) (T := TX0) (N := 19) hx hb hts iG_X0 hown hK hP 0 rfl rfl 8 (by decide) (hts _ w_86) (fun _ h9 => h9) rfl dX0_walkerBits_2 ?_
  refine lv_ishl hx hb dX0_walkerBits_5 ?_
  refine lv_topi (fun v1 ev1 => ?_)
  obtain ⟨sa2, sb3⟩ : 1 ≤ v1.toInt ∧ v1.toInt ≤ 128 := shl1 7 rfl (by omega) (by omega) (by decide) ev1
  refine lv_iconst (v := 1) hx hb dX0_walkerBits_6 (by decide) ?_
  refine lv_isub hx hb dX0_walkerBits_7 ?_
  refine lv_topi (fun v4 ev4 => ?_)
  have tv4 : v4.toInt = v1.toInt - 1 := ti_sub rfl ki_1 ev4 (by omega) (by omega)
  refine lv_istore_n (lv' := [(1, .int v4), (0, .ref h0)]) hx hb dX0_walkerBits_8 rfl hl (by decide) rfl (fun ls hl => ?_)
  refine lv_iconst (v := 0) hx hb dX0_walkerBits_9 (by decide) ?_
  refine lv_istore_n (lv' := [(2, .int 0), (1, .int v4), (0, .ref h0)]) hx hb dX0_walkerBits_10 rfl hl (by decide) rfl (fun ls hl => ?_)
  have lp5 : ∀ (n6 : Nat) (x7 : Int32) (x8 : Int32), 0 ≤ x8.toInt → x8.toInt ≤ 30 → 30 - x8.toInt < (n6 : Int) → ∀ (H : Heap) (locs : List Loc), va_P G vwCl [(h0, oX0 b o_lines o_span o_rule o_odds o_wide o_high o_creeks o_houses o_widows o_acts), (b 18, .inl (cI, 30, .inl o_f18))] H → va_D A [(h0, oX0 b o_lines o_span o_rule o_odds o_wide o_high o_creeks o_houses o_widows o_acts), (b 18, .inl (cI, 30, .inl o_f18))] → va_S A s.heap H locs → ∀ (ls : Array Slot), lv_has ls 3 [(2, .int x8), (1, .int x7), (0, .ref h0)] → W p l e ({ frames := 0, cells := 0, slots := 0, locals := 0 } : Room) s m ([.ref h0] : List Value).toArray below meth c H locs 0 0 Q (F0 m 11 ls []) := by
    intro n6
    induction n6 with
    | zero =>
      intro x7 x8 k9 k10 mm12
      exact absurd mm12 (by have q9 := fb_rng x8; omega)
    | succ n6 ih11 =>
      intro x7 x8 k9 k10 mm12 H locs hP hD hS ls hl
      refine lv_iload_n hx hb dX0_walkerBits_11 rfl (lv_at hl 0 rfl) ?_
      refine lv_aload_n hx hb dX0_walkerBits_12 rfl (lv_at hl 2 rfl) ?_
      refine va_get (D := G) (ci := 0) (v := .int o_acts) (C := RX0) (T := TX0) (N := 19) hx hb hts iG_X0 hown hK hP 0 rfl rfl 9 (by decide) (hts _ w_89) (fun _ h9 => h9) rfl dX0_walkerBits_13 ?_
      refine lv_icmp_ge (tgt := 52) hx hb dX0_walkerBits_16 (by decide) (fun c13 => ?_) (fun c13 => ?_)
      · have c13 := i_le rfl rfl c13
        refine lv_iload_n hx hb dX0_walkerBits_52 rfl (lv_at hl 1 rfl) ?_
        exact hret _ _ _ _ x7 () hP hD hS dX0_walkerBits_53 trivial
      · have c13 := i_nle rfl rfl c13
        refine lv_aload_n hx hb dX0_walkerBits_19 rfl (lv_at hl 2 rfl) ?_
        refine va_get (D := G) (ci := 0) (v := .ref (b 18)) (C := RX0) (T := TX0) (N := 19) hx hb hts iG_X0 hown hK hP 0 rfl rfl 18 (by decide) (hts _ w_121) (fun _ h9 => h9) rfl dX0_walkerBits_20 ?_
        refine lv_iload_n hx hb dX0_walkerBits_23 rfl (lv_at hl 0 rfl) ?_
        refine va_iald hx hb hK hP 1 0 rfl rfl (ix_in rfl (by omega) (by omega)) dX0_walkerBits_24 ?_
        refine lv_topi (fun v14 ev14 => ?_)
        refine lv_bipush (v := 64) hx hb dX0_walkerBits_25 (by decide) ?_
        refine lv_icmp_lt (tgt := 46) hx hb dX0_walkerBits_27 (by decide) (fun c15 => ?_) (fun c15 => ?_)
        · have c15 := i_lt rfl ki_64 c15
          obtain ⟨v16, ev16⟩ : ∃ y : Int32, y = x8 + 1 := ⟨_, rfl⟩
          have tv16 : v16.toInt = x8.toInt + 1 := ti_add rfl ki_1 ev16 (by omega) (by omega)
          refine lv_iinc (v := v16) (lv' := [(2, .int v16), (1, .int x7), (0, .ref h0)]) hx hb dX0_walkerBits_46 hl (k := 0) rfl (by rw [ev16]; rfl) (by decide) rfl (fun ls hl => ?_)
          refine lv_goto (tgt := 11) hx hb dX0_walkerBits_49 (by decide) ?_
          exact ih11 x7 v16 (by omega) (by omega) (by omega) _ _ hP hD hS ls (lv_sub hl [0, 1, 2] rfl)
        · have c15 := i_nlt rfl ki_64 c15
          refine lv_iload_n hx hb dX0_walkerBits_30 rfl (lv_at hl 1 rfl) ?_
          refine lv_iconst (v := 1) hx hb dX0_walkerBits_31 (by decide) ?_
          refine lv_aload_n hx hb dX0_walkerBits_32 rfl (lv_at hl 2 rfl) ?_
          refine va_get (D := G) (ci := 0) (v := .ref (b 18)) (C := RX0) (T := TX0) (N := 19) hx hb hts iG_X0 hown hK hP 0 rfl rfl 18 (by decide) (hts _ w_121) (fun _ h9 => h9) rfl dX0_walkerBits_33 ?_
          refine lv_iload_n hx hb dX0_walkerBits_36 rfl (lv_at hl 0 rfl) ?_
          refine va_iald hx hb hK hP 1 0 rfl rfl (ix_in rfl (by omega) (by omega)) dX0_walkerBits_37 ?_
          refine lv_topi (fun v17 ev17 => ?_)
          refine lv_bipush (v := 64) hx hb dX0_walkerBits_38 (by decide) ?_
          refine lv_isub hx hb dX0_walkerBits_40 ?_
          refine lv_topi (fun v18 ev18 => ?_)
          refine lv_ishl hx hb dX0_walkerBits_41 ?_
          refine lv_topi (fun v19 ev19 => ?_)
          refine lv_iconst (v := (-1)) hx hb dX0_walkerBits_42 (by decide) ?_
          refine lv_ixor hx hb dX0_walkerBits_43 ?_
          refine lv_topi (fun v20 ev20 => ?_)
          refine lv_iand hx hb dX0_walkerBits_44 ?_
          refine lv_topi (fun v21 ev21 => ?_)
          refine lv_istore_n (lv' := [(1, .int v21), (2, .int x8), (0, .ref h0)]) hx hb dX0_walkerBits_45 rfl hl (by decide) rfl (fun ls hl => ?_)
          obtain ⟨v22, ev22⟩ : ∃ y : Int32, y = x8 + 1 := ⟨_, rfl⟩
          have tv22 : v22.toInt = x8.toInt + 1 := ti_add rfl ki_1 ev22 (by omega) (by omega)
          refine lv_iinc (v := v22) (lv' := [(2, .int v22), (1, .int v21), (0, .ref h0)]) hx hb dX0_walkerBits_46 hl (k := 1) rfl (by rw [ev22]; rfl) (by decide) rfl (fun ls hl => ?_)
          refine lv_goto (tgt := 11) hx hb dX0_walkerBits_49 (by decide) ?_
          exact ih11 v21 v22 (by omega) (by omega) (by omega) _ _ hP hD hS ls (lv_sub hl [0, 1, 2] rfl)
  exact lp5 31 v4 0 (by rw [ki_0]; decide) (by rw [ki_0]; decide) (by rw [ki_0]; decide) _ _ hP hD hS ls (lv_sub hl [0, 1, 2] rfl)
set_option maxHeartbeats 4000000 in
set_option maxRecDepth 100000 in
theorem f_X0_clear (l : Launch) (G : va_G) (cI cJ cZ cB cQ : ClassId) (sz : Nat) (h0 : Nat) (b : Nat → Nat) (o_lines : Int32) (o_span : Int32) (o_rule : Int32) (o_odds : Int32) (o_wide : Int32) (o_high : Int32) (o_creeks : Int32) (o_houses : Int32) (o_widows : Int32) (o_acts : Int32) (hl_o_span : 0 ≤ o_span.toInt) (hh_o_span : o_span.toInt ≤ 12) (hl_o_rule : 0 ≤ o_rule.toInt) (hh_o_rule : o_rule.toInt ≤ 3) (hl_o_odds : 0 ≤ o_odds.toInt) (hh_o_odds : o_odds.toInt ≤ 10) (hl_o_wide : 0 ≤ o_wide.toInt) (hh_o_wide : o_wide.toInt ≤ 8) (hl_o_high : 0 ≤ o_high.toInt) (hh_o_high : o_high.toInt ≤ 8) (hl_o_creeks : 0 ≤ o_creeks.toInt) (hh_o_creeks : o_creeks.toInt ≤ 12) (hl_o_houses : 0 ≤ o_houses.toInt) (hh_o_houses : o_houses.toInt ≤ 6) (hl_o_widows : 0 ≤ o_widows.toInt) (hh_o_widows : o_widows.toInt ≤ 7) (hl_o_acts : 0 ≤ o_acts.toInt) (hh_o_acts : o_acts.toInt ≤ 30) : CV l yX0_clear (wl_ yX0_clear cX0_clear 1 none) ({ frames := 0, cells := 0, slots := 0, locals := 0 } : Room) G (TY cI cJ cZ cB cQ) [.ref h0] [(h0, oX0 b o_lines o_span o_rule o_odds o_wide o_high o_creeks o_houses o_widows o_acts)] sz (fun (u : Int32 × Int32 × Int32 × Int32 × Int32 × Int32 × Int32 × Int32 × Int32 × Int32) => 0 ≤ u.2.1.toInt ∧ u.2.1.toInt ≤ 12 ∧ 0 ≤ u.2.2.1.toInt ∧ u.2.2.1.toInt ≤ 3 ∧ 0 ≤ u.2.2.2.1.toInt ∧ u.2.2.2.1.toInt ≤ 10 ∧ 0 ≤ u.2.2.2.2.1.toInt ∧ u.2.2.2.2.1.toInt ≤ 8 ∧ 0 ≤ u.2.2.2.2.2.1.toInt ∧ u.2.2.2.2.2.1.toInt ≤ 8 ∧ 0 ≤ u.2.2.2.2.2.2.1.toInt ∧ u.2.2.2.2.2.2.1.toInt ≤ 12 ∧ 0 ≤ u.2.2.2.2.2.2.2.1.toInt ∧ u.2.2.2.2.2.2.2.1.toInt ≤ 6 ∧ 0 ≤ u.2.2.2.2.2.2.2.2.1.toInt ∧ u.2.2.2.2.2.2.2.2.1.toInt ≤ 7 ∧ 0 ≤ u.2.2.2.2.2.2.2.2.2.toInt ∧ u.2.2.2.2.2.2.2.2.2.toInt ≤ 30) (fun u : Int32 × Int32 × Int32 × Int32 × Int32 × Int32 × Int32 × Int32 × Int32 × Int32 => [(h0, oX0 b u.1 u.2.1 u.2.2.1 u.2.2.2.1 u.2.2.2.2.1 u.2.2.2.2.2.1 u.2.2.2.2.2.2.1 u.2.2.2.2.2.2.2.1 u.2.2.2.2.2.2.2.2.1 u.2.2.2.2.2.2.2.2.2)]) 0 0 := by
  refine CV.go (cc := cX0_clear) (maxL := 1) (ret := none) (by decide) rfl (Nat.le_of_ble_eq_true rfl) ?_
  intro p e s m below meth c A ls Q hBd hret
  obtain ⟨hx, hb, hr, hml, hts, hown, hlk, hnm, hP, hK, hD, hA, hZ, hl⟩ := hBd
  have hown : s.vm.findClass RX0 = some m.cls := hown
  have hl : lv_has ls 1 [(0, .ref h0)] := hl
  have hS : va_S A s.heap s.heap [] := va_S.rf
  refine lv_aload_n hx hb dX0_clear_0 rfl (lv_at hl 0 rfl) ?_
  refine lv_iconst (v := 0) hx hb dX0_clear_1 (by decide) ?_
  refine va_put (D := G) (ci := 0) (v := .int 0) (ty := .int) (C := RX0) (T := TX0) (N := 19) hx hb hts iG_X0 tyX0 tyX0_ok nmX0 hown hK hP hD hS 0 rfl rfl 0 (by decide) (hts _ w_55) (fun _ h9 => h9) rfl (by decide +kernel) rfl rfl (Nat.le_of_ble_eq_true rfl) dX0_clear_2 (fun H locs hP hD hS => ?_)
  have hP : va_P G vwCl [(h0, oX0 b 0 o_span o_rule o_odds o_wide o_high o_creeks o_houses o_widows o_acts)] H := hP
  have hD : va_D A [(h0, oX0 b 0 o_span o_rule o_odds o_wide o_high o_creeks o_houses o_widows o_acts)] := hD
  refine lv_aload_n hx hb dX0_clear_5 rfl (lv_at hl 0 rfl) ?_
  refine lv_iconst (v := 0) hx hb dX0_clear_6 (by decide) ?_
  refine va_put (D := G) (ci := 0) (v := .int 0) (ty := .int) (C := RX0) (T := TX0) (N := 19) hx hb hts iG_X0 tyX0 tyX0_ok nmX0 hown hK hP hD hS 0 rfl rfl 1 (by decide) (hts _ w_58) (fun _ h9 => h9) rfl (by decide +kernel) rfl rfl (Nat.le_of_ble_eq_true rfl) dX0_clear_7 (fun H locs hP hD hS => ?_)
  have hP : va_P G vwCl [(h0, oX0 b 0 0 o_rule o_odds o_wide o_high o_creeks o_houses o_widows o_acts)] H := hP
  have hD : va_D A [(h0, oX0 b 0 0 o_rule o_odds o_wide o_high o_creeks o_houses o_widows o_acts)] := hD
  refine lv_aload_n hx hb dX0_clear_10 rfl (lv_at hl 0 rfl) ?_
  refine lv_iconst (v := 0) hx hb dX0_clear_11 (by decide) ?_
  refine va_put (D := G) (ci := 0) (v := .int 0) (ty := .int) (C := RX0) (T := TX0) (N := 19) hx hb hts iG_X0 tyX0 tyX0_ok nmX0 hown hK hP hD hS 0 rfl rfl 2 (by decide) (hts _ w_64) (fun _ h9 => h9) rfl (by decide +kernel) rfl rfl (Nat.le_of_ble_eq_true rfl) dX0_clear_12 (fun H locs hP hD hS => ?_)
  have hP : va_P G vwCl [(h0, oX0 b 0 0 0 o_odds o_wide o_high o_creeks o_houses o_widows o_acts)] H := hP
  have hD : va_D A [(h0, oX0 b 0 0 0 o_odds o_wide o_high o_creeks o_houses o_widows o_acts)] := hD
  refine lv_aload_n hx hb dX0_clear_15 rfl (lv_at hl 0 rfl) ?_
  refine lv_iconst (v := 0) hx hb dX0_clear_16 (by decide) ?_
  refine va_put (D := G) (ci := 0) (v := .int 0) (ty := .int) (C := RX0) (T := TX0) (N := 19) hx hb hts iG_X0 tyX0 tyX0_ok nmX0 hown hK hP hD hS 0 rfl rfl 3 (by decide) (hts _ w_67) (fun _ h9 => h9) rfl (by decide +kernel) rfl rfl (Nat.le_of_ble_eq_true rfl) dX0_clear_17 (fun H locs hP hD hS => ?_)
  have hP : va_P G vwCl [(h0, oX0 b 0 0 0 0 o_wide o_high o_creeks o_houses o_widows o_acts)] H := hP
  have hD : va_D A [(h0, oX0 b 0 0 0 0 o_wide o_high o_creeks o_houses o_widows o_acts)] := hD
  refine lv_aload_n hx hb dX0_clear_20 rfl (lv_at hl 0 rfl) ?_
  refine lv_iconst (v := 0) hx hb dX0_clear_21 (by decide) ?_
  refine va_put (D := G) (ci := 0) (v := .int 0) (ty := .int) (C := RX0) (T := TX0) (N := 19) hx hb hts iG_X0 tyX0 tyX0_ok nmX0 hown hK hP hD hS 0 rfl rfl 4 (by decide) (hts _ w_71) (fun _ h9 => h9) rfl (by decide +kernel) rfl rfl (Nat.le_of_ble_eq_true rfl) dX0_clear_22 (fun H locs hP hD hS => ?_)
  have hP : va_P G vwCl [(h0, oX0 b 0 0 0 0 0 o_high o_creeks o_houses o_widows o_acts)] H := hP
  have hD : va_D A [(h0, oX0 b 0 0 0 0 0 o_high o_creeks o_houses o_widows o_acts)] := hD
  refine lv_aload_n hx hb dX0_clear_25 rfl (lv_at hl 0 rfl) ?_
  refine lv_iconst (v := 0) hx hb dX0_clear_26 (by decide) ?_
  refine va_put (D := G) (ci := 0) (v := .int 0) (ty := .int) (C := RX0) (T := TX0) (N := 19) hx hb hts iG_X0 tyX0 tyX0_ok nmX0 hown hK hP hD hS 0 rfl rfl 5 (by decide) (hts _ w_74) (fun _ h9 => h9) rfl (by decide +kernel) rfl rfl (Nat.le_of_ble_eq_true rfl) dX0_clear_27 (fun H locs hP hD hS => ?_)
  have hP : va_P G vwCl [(h0, oX0 b 0 0 0 0 0 0 o_creeks o_houses o_widows o_acts)] H := hP
  have hD : va_D A [(h0, oX0 b 0 0 0 0 0 0 o_creeks o_houses o_widows o_acts)] := hD
  refine lv_aload_n hx hb dX0_clear_30 rfl (lv_at hl 0 rfl) ?_
  refine lv_iconst (v := 0) hx hb dX0_clear_31 (by decide) ?_
  refine va_put (D := G) (ci := 0) (v := .int 0) (ty := .int) (C := RX0) (T := TX0) (N := 19) hx hb hts iG_X0 tyX0 tyX0_ok nmX0 hown hK hP hD hS 0 rfl rfl 6 (by decide) (hts _ w_77) (fun _ h9 => h9) rfl (by decide +kernel) rfl rfl (Nat.le_of_ble_eq_true rfl) dX0_clear_32 (fun H locs hP hD hS => ?_)
  have hP : va_P G vwCl [(h0, oX0 b 0 0 0 0 0 0 0 o_houses o_widows o_acts)] H := hP
  have hD : va_D A [(h0, oX0 b 0 0 0 0 0 0 0 o_houses o_widows o_acts)] := hD
  refine lv_aload_n hx hb dX0_clear_35 rfl (lv_at hl 0 rfl) ?_
  refine lv_iconst (v := 0) hx hb dX0_clear_36 (by decide) ?_
  refine va_put (D := G) (ci := 0) (v := .int 0) (ty := .int) (C := RX0) (T := TX0) (N := 19) hx hb hts iG_X0 tyX0 tyX0_ok nmX0 hown hK hP hD hS 0 rfl rfl 7 (by decide) (hts _ w_80) (fun _ h9 => h9) rfl (by decide +kernel) rfl rfl (Nat.le_of_ble_eq_true rfl) dX0_clear_37 (fun H locs hP hD hS => ?_)
  have hP : va_P G vwCl [(h0, oX0 b 0 0 0 0 0 0 0 0 o_widows o_acts)] H := hP
  have hD : va_D A [(h0, oX0 b 0 0 0 0 0 0 0 0 o_widows o_acts)] := hD
  refine lv_aload_n hx hb dX0_clear_40 rfl (lv_at hl 0 rfl) ?_
  refine lv_iconst (v := 0) hx hb dX0_clear_41 (by decide) ?_
  refine va_put (D := G) (ci := 0) (v := .int 0) (ty := .int) (C := RX0) (T := TX0) (N := 19) hx hb hts iG_X0 tyX0 tyX0_ok nmX0 hown hK hP hD hS 0 rfl rfl 8 (by decide) (hts _ w_86) (fun _ h9 => h9) rfl (by decide +kernel) rfl rfl (Nat.le_of_ble_eq_true rfl) dX0_clear_42 (fun H locs hP hD hS => ?_)
  have hP : va_P G vwCl [(h0, oX0 b 0 0 0 0 0 0 0 0 0 o_acts)] H := hP
  have hD : va_D A [(h0, oX0 b 0 0 0 0 0 0 0 0 0 o_acts)] := hD
  refine lv_aload_n hx hb dX0_clear_45 rfl (lv_at hl 0 rfl) ?_
  refine lv_iconst (v := 0) hx hb dX0_clear_46 (by decide) ?_
  refine va_put (D := G) (ci := 0) (v := .int 0) (ty := .int) (C := RX0) (T := TX0) (N := 19) hx hb hts iG_X0 tyX0 tyX0_ok nmX0 hown hK hP hD hS 0 rfl rfl 9 (by decide) (hts _ w_89) (fun _ h9 => h9) rfl (by decide +kernel) rfl rfl (Nat.le_of_ble_eq_true rfl) dX0_clear_47 (fun H locs hP hD hS => ?_)
  have hP : va_P G vwCl [(h0, oX0 b 0 0 0 0 0 0 0 0 0 0)] H := hP
  have hD : va_D A [(h0, oX0 b 0 0 0 0 0 0 0 0 0 0)] := hD
  exact hret _ _ _ _ (0, 0, 0, 0, 0, 0, 0, 0, 0, 0) hP hD hS dX0_clear_50 (show 0 ≤ (0 : Int32).toInt ∧ (0 : Int32).toInt ≤ 12 ∧ 0 ≤ (0 : Int32).toInt ∧ (0 : Int32).toInt ≤ 3 ∧ 0 ≤ (0 : Int32).toInt ∧ (0 : Int32).toInt ≤ 10 ∧ 0 ≤ (0 : Int32).toInt ∧ (0 : Int32).toInt ≤ 8 ∧ 0 ≤ (0 : Int32).toInt ∧ (0 : Int32).toInt ≤ 8 ∧ 0 ≤ (0 : Int32).toInt ∧ (0 : Int32).toInt ≤ 12 ∧ 0 ≤ (0 : Int32).toInt ∧ (0 : Int32).toInt ≤ 6 ∧ 0 ≤ (0 : Int32).toInt ∧ (0 : Int32).toInt ≤ 7 ∧ 0 ≤ (0 : Int32).toInt ∧ (0 : Int32).toInt ≤ 30 from ⟨(by rw [ki_0]; decide), (by rw [ki_0]; decide), (by rw [ki_0]; decide), (by rw [ki_0]; decide), (by rw [ki_0]; decide), (by rw [ki_0]; decide), (by rw [ki_0]; decide), (by rw [ki_0]; decide), (by rw [ki_0]; decide), (by rw [ki_0]; decide), (by rw [ki_0]; decide), (by rw [ki_0]; decide), (by rw [ki_0]; decide), (by rw [ki_0]; decide), (by rw [ki_0]; decide), (by rw [ki_0]; decide), (by rw [ki_0]; decide), (by rw [ki_0]; decide)⟩)
set_option maxHeartbeats 4000000 in
set_option maxRecDepth 100000 in
theorem f_X0_become (l : Launch) (G : va_G) (cI cJ cZ cB cQ : ClassId) (sz : Nat) (h0 : Nat) (h1 : Nat) (b : Nat → Nat) (o_lines : Int32) (o_span : Int32) (o_rule : Int32) (o_odds : Int32) (o_wide : Int32) (o_high : Int32) (o_creeks : Int32) (o_houses : Int32) (o_widows : Int32) (o_acts : Int32) (o_f10 : Nat → Int32) (o_f11 : Nat → Int32) (o_f12 : Nat → Int32) (o_f13 : Nat → Int32) (o_f14 : Nat → Int32) (o_f15 : Nat → Int32) (o_f16 : Nat → Int32) (o_f17 : Nat → Int32) (o_f18 : Nat → Int32) (bc : Nat → Nat) (c_lines : Int32) (c_span : Int32) (c_rule : Int32) (c_odds : Int32) (c_wide : Int32) (c_high : Int32) (c_creeks : Int32) (c_houses : Int32) (c_widows : Int32) (c_acts : Int32) (c_f10 : Nat → Int32) (c_f11 : Nat → Int32) (c_f12 : Nat → Int32) (c_f13 : Nat → Int32) (c_f14 : Nat → Int32) (c_f15 : Nat → Int32) (c_f16 : Nat → Int32) (c_f17 : Nat → Int32) (c_f18 : Nat → Int32) (hl_o_span : 0 ≤ o_span.toInt) (hh_o_span : o_span.toInt ≤ 12) (hl_o_rule : 0 ≤ o_rule.toInt) (hh_o_rule : o_rule.toInt ≤ 3) (hl_o_odds : 0 ≤ o_odds.toInt) (hh_o_odds : o_odds.toInt ≤ 10) (hl_o_wide : 0 ≤ o_wide.toInt) (hh_o_wide : o_wide.toInt ≤ 8) (hl_o_high : 0 ≤ o_high.toInt) (hh_o_high : o_high.toInt ≤ 8) (hl_o_creeks : 0 ≤ o_creeks.toInt) (hh_o_creeks : o_creeks.toInt ≤ 12) (hl_o_houses : 0 ≤ o_houses.toInt) (hh_o_houses : o_houses.toInt ≤ 6) (hl_o_widows : 0 ≤ o_widows.toInt) (hh_o_widows : o_widows.toInt ≤ 7) (hl_o_acts : 0 ≤ o_acts.toInt) (hh_o_acts : o_acts.toInt ≤ 30) (ha_o_f14 : ai o_f14 7 (-2147483648) 40) (ha_o_f16 : ai o_f16 7 (-2147483648) 8) (hl_c_span : 0 ≤ c_span.toInt) (hh_c_span : c_span.toInt ≤ 12) (hl_c_rule : 0 ≤ c_rule.toInt) (hh_c_rule : c_rule.toInt ≤ 3) (hl_c_odds : 0 ≤ c_odds.toInt) (hh_c_odds : c_odds.toInt ≤ 10) (hl_c_wide : 0 ≤ c_wide.toInt) (hh_c_wide : c_wide.toInt ≤ 8) (hl_c_high : 0 ≤ c_high.toInt) (hh_c_high : c_high.toInt ≤ 8) (hl_c_creeks : 0 ≤ c_creeks.toInt) (hh_c_creeks : c_creeks.toInt ≤ 12) (hl_c_houses : 0 ≤ c_houses.toInt) (hh_c_houses : c_houses.toInt ≤ 6) (hl_c_widows : 0 ≤ c_widows.toInt) (hh_c_widows : c_widows.toInt ≤ 7) (hl_c_acts : 0 ≤ c_acts.toInt) (hh_c_acts : c_acts.toInt ≤ 30) (ha_c_f14 : ai c_f14 7 (-2147483648) 40) (ha_c_f16 : ai c_f16 7 (-2147483648) 8) : CV l yX0_become (wl_ yX0_become cX0_become 2 none) ({ frames := 1, cells := 0, slots := 0, locals := 40 } : Room) G (TY cI cJ cZ cB cQ) [.ref h0, .ref h1] [(h0, oX0 b o_lines o_span o_rule o_odds o_wide o_high o_creeks o_houses o_widows o_acts), (b 10, .inl (cI, 12, .inl o_f10)), (b 11, .inl (cI, 6, .inl o_f11)), (b 12, .inl (cI, 7, .inl o_f12)), (b 13, .inl (cI, 7, .inl o_f13)), (b 14, .inl (cI, 7, .inl o_f14)), (b 15, .inl (cI, 7, .inl o_f15)), (b 16, .inl (cI, 7, .inl o_f16)), (b 17, .inl (cI, 56, .inl o_f17)), (b 18, .inl (cI, 30, .inl o_f18)), (h1, oX0 bc c_lines c_span c_rule c_odds c_wide c_high c_creeks c_houses c_widows c_acts), (bc 10, .inl (cI, 12, .inl c_f10)), (bc 11, .inl (cI, 6, .inl c_f11)), (bc 12, .inl (cI, 7, .inl c_f12)), (bc 13, .inl (cI, 7, .inl c_f13)), (bc 14, .inl (cI, 7, .inl c_f14)), (bc 15, .inl (cI, 7, .inl c_f15)), (bc 16, .inl (cI, 7, .inl c_f16)), (bc 17, .inl (cI, 56, .inl c_f17)), (bc 18, .inl (cI, 30, .inl c_f18))] sz (fun (u : Int32 × Int32 × Int32 × Int32 × Int32 × Int32 × Int32 × Int32 × Int32 × Int32 × (Nat → Int32) × (Nat → Int32) × (Nat → Int32) × (Nat → Int32) × (Nat → Int32) × (Nat → Int32) × (Nat → Int32) × (Nat → Int32) × (Nat → Int32)) => 0 ≤ u.2.1.toInt ∧ u.2.1.toInt ≤ 12 ∧ 0 ≤ u.2.2.1.toInt ∧ u.2.2.1.toInt ≤ 3 ∧ 0 ≤ u.2.2.2.1.toInt ∧ u.2.2.2.1.toInt ≤ 10 ∧ 0 ≤ u.2.2.2.2.1.toInt ∧ u.2.2.2.2.1.toInt ≤ 8 ∧ 0 ≤ u.2.2.2.2.2.1.toInt ∧ u.2.2.2.2.2.1.toInt ≤ 8 ∧ 0 ≤ u.2.2.2.2.2.2.1.toInt ∧ u.2.2.2.2.2.2.1.toInt ≤ 12 ∧ 0 ≤ u.2.2.2.2.2.2.2.1.toInt ∧ u.2.2.2.2.2.2.2.1.toInt ≤ 6 ∧ 0 ≤ u.2.2.2.2.2.2.2.2.1.toInt ∧ u.2.2.2.2.2.2.2.2.1.toInt ≤ 7 ∧ 0 ≤ u.2.2.2.2.2.2.2.2.2.1.toInt ∧ u.2.2.2.2.2.2.2.2.2.1.toInt ≤ 30 ∧ ai u.2.2.2.2.2.2.2.2.2.2.2.2.2.2.1 7 (-2147483648) 40 ∧ ai u.2.2.2.2.2.2.2.2.2.2.2.2.2.2.2.2.1 7 (-2147483648) 8) (fun u : Int32 × Int32 × Int32 × Int32 × Int32 × Int32 × Int32 × Int32 × Int32 × Int32 × (Nat → Int32) × (Nat → Int32) × (Nat → Int32) × (Nat → Int32) × (Nat → Int32) × (Nat → Int32) × (Nat → Int32) × (Nat → Int32) × (Nat → Int32) => [(h0, oX0 b u.1 u.2.1 u.2.2.1 u.2.2.2.1 u.2.2.2.2.1 u.2.2.2.2.2.1 u.2.2.2.2.2.2.1 u.2.2.2.2.2.2.2.1 u.2.2.2.2.2.2.2.2.1 u.2.2.2.2.2.2.2.2.2.1), (b 10, .inl (cI, 12, .inl u.2.2.2.2.2.2.2.2.2.2.1)), (b 11, .inl (cI, 6, .inl u.2.2.2.2.2.2.2.2.2.2.2.1)), (b 12, .inl (cI, 7, .inl u.2.2.2.2.2.2.2.2.2.2.2.2.1)), (b 13, .inl (cI, 7, .inl u.2.2.2.2.2.2.2.2.2.2.2.2.2.1)), (b 14, .inl (cI, 7, .inl u.2.2.2.2.2.2.2.2.2.2.2.2.2.2.1)), (b 15, .inl (cI, 7, .inl u.2.2.2.2.2.2.2.2.2.2.2.2.2.2.2.1)), (b 16, .inl (cI, 7, .inl u.2.2.2.2.2.2.2.2.2.2.2.2.2.2.2.2.1)), (b 17, .inl (cI, 56, .inl u.2.2.2.2.2.2.2.2.2.2.2.2.2.2.2.2.2.1)), (b 18, .inl (cI, 30, .inl u.2.2.2.2.2.2.2.2.2.2.2.2.2.2.2.2.2.2)), (h1, oX0 bc c_lines c_span c_rule c_odds c_wide c_high c_creeks c_houses c_widows c_acts), (bc 10, .inl (cI, 12, .inl c_f10)), (bc 11, .inl (cI, 6, .inl c_f11)), (bc 12, .inl (cI, 7, .inl c_f12)), (bc 13, .inl (cI, 7, .inl c_f13)), (bc 14, .inl (cI, 7, .inl c_f14)), (bc 15, .inl (cI, 7, .inl c_f15)), (bc 16, .inl (cI, 7, .inl c_f16)), (bc 17, .inl (cI, 56, .inl c_f17)), (bc 18, .inl (cI, 30, .inl c_f18))]) 0 0 := by
  refine CV.go (cc := cX0_become) (maxL := 2) (ret := none) (by decide) rfl (Nat.le_of_ble_eq_true rfl) ?_
  intro p e s m below meth c A ls Q hBd hret
  obtain ⟨hx, hb, hr, hml, hts, hown, hlk, hnm, hP, hK, hD, hA, hZ, hl⟩ := hBd
  have hown : s.vm.findClass RX0 = some m.cls := hown
  have hl : lv_has ls 2 [(0, .ref h0), (1, .ref h1)] := hl
  have hS : va_S A s.heap s.heap [] := va_S.rf
  refine lv_aload_n hx hb dX0_become_0 rfl (lv_at hl 0 rfl) ?_
  refine lv_aload_n hx hb dX0_become_1 rfl (lv_at hl 1 rfl) ?_
  refine va_get (D := G) (ci := 0) (v := .int c_lines) (C := RX0) (T := TX0) (N := 19) hx hb hts iG_X0 hown hK hP 10 rfl rfl 0 (by decide) (hts _ w_55) (fun _ h9 => h9) rfl dX0_become_2 ?_
  refine va_put (D := G) (ci := 0) (v := .int c_lines) (ty := .int) (C := RX0) (T := TX0) (N := 19) hx hb hts iG_X0 tyX0 tyX0_ok nmX0 hown hK hP hD hS 0 rfl rfl 0 (by decide) (hts _ w_55) (fun _ h9 => h9) rfl (by decide +kernel) rfl rfl (Nat.le_of_ble_eq_true rfl) dX0_become_5 (fun H locs hP hD hS => ?_)
  have hP : va_P G vwCl [(h0, oX0 b c_lines o_span o_rule o_odds o_wide o_high o_creeks o_houses o_widows o_acts), (b 10, .inl (cI, 12, .inl o_f10)), (b 11, .inl (cI, 6, .inl o_f11)), (b 12, .inl (cI, 7, .inl o_f12)), (b 13, .inl (cI, 7, .inl o_f13)), (b 14, .inl (cI, 7, .inl o_f14)), (b 15, .inl (cI, 7, .inl o_f15)), (b 16, .inl (cI, 7, .inl o_f16)), (b 17, .inl (cI, 56, .inl o_f17)), (b 18, .inl (cI, 30, .inl o_f18)), (h1, oX0 bc c_lines c_span c_rule c_odds c_wide c_high c_creeks c_houses c_widows c_acts), (bc 10, .inl (cI, 12, .inl c_f10)), (bc 11, .inl (cI, 6, .inl c_f11)), (bc 12, .inl (cI, 7, .inl c_f12)), (bc 13, .inl (cI, 7, .inl c_f13)), (bc 14, .inl (cI, 7, .inl c_f14)), (bc 15, .inl (cI, 7, .inl c_f15)), (bc 16, .inl (cI, 7, .inl c_f16)), (bc 17, .inl (cI, 56, .inl c_f17)), (bc 18, .inl (cI, 30, .inl c_f18))] H := hP
  have hD : va_D A [(h0, oX0 b c_lines o_span o_rule o_odds o_wide o_high o_creeks o_houses o_widows o_acts), (b 10, .inl (cI, 12, .inl o_f10)), (b 11, .inl (cI, 6, .inl o_f11)), (b 12, .inl (cI, 7, .inl o_f12)), (b 13, .inl (cI, 7, .inl o_f13)), (b 14, .inl (cI, 7, .inl o_f14)), (b 15, .inl (cI, 7, .inl o_f15)), (b 16, .inl (cI, 7, .inl o_f16)), (b 17, .inl (cI, 56, .inl o_f17)), (b 18, .inl (cI, 30, .inl o_f18)), (h1, oX0 bc c_lines c_span c_rule c_odds c_wide c_high c_creeks c_houses c_widows c_acts), (bc 10, .inl (cI, 12, .inl c_f10)), (bc 11, .inl (cI, 6, .inl c_f11)), (bc 12, .inl (cI, 7, .inl c_f12)), (bc 13, .inl (cI, 7, .inl c_f13)), (bc 14, .inl (cI, 7, .inl c_f14)), (bc 15, .inl (cI, 7, .inl c_f15)), (bc 16, .inl (cI, 7, .inl c_f16)), (bc 17, .inl (cI, 56, .inl c_f17)), (bc 18, .inl (cI, 30, .inl c_f18))] := hD
  refine lv_aload_n hx hb dX0_become_8 rfl (lv_at hl 0 rfl) ?_
  refine lv_aload_n hx hb dX0_become_9 rfl (lv_at hl 1 rfl) ?_
  refine va_get (D := G) (ci := 0) (v := .int c_span) (C := RX0) (T := TX0) (N := 19) hx hb hts iG_X0 hown hK hP 10 rfl rfl 1 (by decide) (hts _ w_58) (fun _ h9 => h9) rfl dX0_become_10 ?_
  refine va_put (D := G) (ci := 0) (v := .int c_span) (ty := .int) (C := RX0) (T := TX0) (N := 19) hx hb hts iG_X0 tyX0 tyX0_ok nmX0 hown hK hP hD hS 0 rfl rfl 1 (by decide) (hts _ w_58) (fun _ h9 => h9) rfl (by decide +kernel) rfl rfl (Nat.le_of_ble_eq_true rfl) dX0_become_13 (fun H locs hP hD hS => ?_)
  have hP : va_P G vwCl [(h0, oX0 b c_lines c_span o_rule o_odds o_wide o_high o_creeks o_houses o_widows o_acts), (b 10, .inl (cI, 12, .inl o_f10)), (b 11, .inl (cI, 6, .inl o_f11)), (b 12, .inl (cI, 7, .inl o_f12)), (b 13, .inl (cI, 7, .inl o_f13)), (b 14, .inl (cI, 7, .inl o_f14)), (b 15, .inl (cI, 7, .inl o_f15)), (b 16, .inl (cI, 7, .inl o_f16)), (b 17, .inl (cI, 56, .inl o_f17)), (b 18, .inl (cI, 30, .inl o_f18)), (h1, oX0 bc c_lines c_span c_rule c_odds c_wide c_high c_creeks c_houses c_widows c_acts), (bc 10, .inl (cI, 12, .inl c_f10)), (bc 11, .inl (cI, 6, .inl c_f11)), (bc 12, .inl (cI, 7, .inl c_f12)), (bc 13, .inl (cI, 7, .inl c_f13)), (bc 14, .inl (cI, 7, .inl c_f14)), (bc 15, .inl (cI, 7, .inl c_f15)), (bc 16, .inl (cI, 7, .inl c_f16)), (bc 17, .inl (cI, 56, .inl c_f17)), (bc 18, .inl (cI, 30, .inl c_f18))] H := hP
  have hD : va_D A [(h0, oX0 b c_lines c_span o_rule o_odds o_wide o_high o_creeks o_houses o_widows o_acts), (b 10, .inl (cI, 12, .inl o_f10)), (b 11, .inl (cI, 6, .inl o_f11)), (b 12, .inl (cI, 7, .inl o_f12)), (b 13, .inl (cI, 7, .inl o_f13)), (b 14, .inl (cI, 7, .inl o_f14)), (b 15, .inl (cI, 7, .inl o_f15)), (b 16, .inl (cI, 7, .inl o_f16)), (b 17, .inl (cI, 56, .inl o_f17)), (b 18, .inl (cI, 30, .inl o_f18)), (h1, oX0 bc c_lines c_span c_rule c_odds c_wide c_high c_creeks c_houses c_widows c_acts), (bc 10, .inl (cI, 12, .inl c_f10)), (bc 11, .inl (cI, 6, .inl c_f11)), (bc 12, .inl (cI, 7, .inl c_f12)), (bc 13, .inl (cI, 7, .inl c_f13)), (bc 14, .inl (cI, 7, .inl c_f14)), (bc 15, .inl (cI, 7, .inl c_f15)), (bc 16, .inl (cI, 7, .inl c_f16)), (bc 17, .inl (cI, 56, .inl c_f17)), (bc 18, .inl (cI, 30, .inl c_f18))] := hD
  refine lv_aload_n hx hb dX0_become_16 rfl (lv_at hl 0 rfl) ?_
  refine lv_aload_n hx hb dX0_become_17 rfl (lv_at hl 1 rfl) ?_
  refine va_get (D := G) (ci := 0) (v := .int c_rule) (C := RX0) (T := TX0) (N := 19) hx hb hts iG_X0 hown hK hP 10 rfl rfl 2 (by decide) (hts _ w_64) (fun _ h9 => h9) rfl dX0_become_18 ?_
  refine va_put (D := G) (ci := 0) (v := .int c_rule) (ty := .int) (C := RX0) (T := TX0) (N := 19) hx hb hts iG_X0 tyX0 tyX0_ok nmX0 hown hK hP hD hS 0 rfl rfl 2 (by decide) (hts _ w_64) (fun _ h9 => h9) rfl (by decide +kernel) rfl rfl (Nat.le_of_ble_eq_true rfl) dX0_become_21 (fun H locs hP hD hS => ?_)
  have hP : va_P G vwCl [(h0, oX0 b c_lines c_span c_rule o_odds o_wide o_high o_creeks o_houses o_widows o_acts), (b 10, .inl (cI, 12, .inl o_f10)), (b 11, .inl (cI, 6, .inl o_f11)), (b 12, .inl (cI, 7, .inl o_f12)), (b 13, .inl (cI, 7, .inl o_f13)), (b 14, .inl (cI, 7, .inl o_f14)), (b 15, .inl (cI, 7, .inl o_f15)), (b 16, .inl (cI, 7, .inl o_f16)), (b 17, .inl (cI, 56, .inl o_f17)), (b 18, .inl (cI, 30, .inl o_f18)), (h1, oX0 bc c_lines c_span c_rule c_odds c_wide c_high c_creeks c_houses c_widows c_acts), (bc 10, .inl (cI, 12, .inl c_f10)), (bc 11, .inl (cI, 6, .inl c_f11)), (bc 12, .inl (cI, 7, .inl c_f12)), (bc 13, .inl (cI, 7, .inl c_f13)), (bc 14, .inl (cI, 7, .inl c_f14)), (bc 15, .inl (cI, 7, .inl c_f15)), (bc 16, .inl (cI, 7, .inl c_f16)), (bc 17, .inl (cI, 56, .inl c_f17)), (bc 18, .inl (cI, 30, .inl c_f18))] H := hP
  have hD : va_D A [(h0, oX0 b c_lines c_span c_rule o_odds o_wide o_high o_creeks o_houses o_widows o_acts), (b 10, .inl (cI, 12, .inl o_f10)), (b 11, .inl (cI, 6, .inl o_f11)), (b 12, .inl (cI, 7, .inl o_f12)), (b 13, .inl (cI, 7, .inl o_f13)), (b 14, .inl (cI, 7, .inl o_f14)), (b 15, .inl (cI, 7, .inl o_f15)), (b 16, .inl (cI, 7, .inl o_f16)), (b 17, .inl (cI, 56, .inl o_f17)), (b 18, .inl (cI, 30, .inl o_f18)), (h1, oX0 bc c_lines c_span c_rule c_odds c_wide c_high c_creeks c_houses c_widows c_acts), (bc 10, .inl (cI, 12, .inl c_f10)), (bc 11, .inl (cI, 6, .inl c_f11)), (bc 12, .inl (cI, 7, .inl c_f12)), (bc 13, .inl (cI, 7, .inl c_f13)), (bc 14, .inl (cI, 7, .inl c_f14)), (bc 15, .inl (cI, 7, .inl c_f15)), (bc 16, .inl (cI, 7, .inl c_f16)), (bc 17, .inl (cI, 56, .inl c_f17)), (bc 18, .inl (cI, 30, .inl c_f18))] := hD
  refine lv_aload_n hx hb dX0_become_24 rfl (lv_at hl 0 rfl) ?_
  refine lv_aload_n hx hb dX0_become_25 rfl (lv_at hl 1 rfl) ?_
  refine va_get (D := G) (ci := 0) (v := .int c_odds) (C := RX0) (T := TX0) (N := 19) hx hb hts iG_X0 hown hK hP 10 rfl rfl 3 (by decide) (hts _ w_67) (fun _ h9 => h9) rfl dX0_become_26 ?_
  refine va_put (D := G) (ci := 0) (v := .int c_odds) (ty := .int) (C := RX0) (T := TX0) (N := 19) hx hb hts iG_X0 tyX0 tyX0_ok nmX0 hown hK hP hD hS 0 rfl rfl 3 (by decide) (hts _ w_67) (fun _ h9 => h9) rfl (by decide +kernel) rfl rfl (Nat.le_of_ble_eq_true rfl) dX0_become_29 (fun H locs hP hD hS => ?_)
  have hP : va_P G vwCl [(h0, oX0 b c_lines c_span c_rule c_odds o_wide o_high o_creeks o_houses o_widows o_acts), (b 10, .inl (cI, 12, .inl o_f10)), (b 11, .inl (cI, 6, .inl o_f11)), (b 12, .inl (cI, 7, .inl o_f12)), (b 13, .inl (cI, 7, .inl o_f13)), (b 14, .inl (cI, 7, .inl o_f14)), (b 15, .inl (cI, 7, .inl o_f15)), (b 16, .inl (cI, 7, .inl o_f16)), (b 17, .inl (cI, 56, .inl o_f17)), (b 18, .inl (cI, 30, .inl o_f18)), (h1, oX0 bc c_lines c_span c_rule c_odds c_wide c_high c_creeks c_houses c_widows c_acts), (bc 10, .inl (cI, 12, .inl c_f10)), (bc 11, .inl (cI, 6, .inl c_f11)), (bc 12, .inl (cI, 7, .inl c_f12)), (bc 13, .inl (cI, 7, .inl c_f13)), (bc 14, .inl (cI, 7, .inl c_f14)), (bc 15, .inl (cI, 7, .inl c_f15)), (bc 16, .inl (cI, 7, .inl c_f16)), (bc 17, .inl (cI, 56, .inl c_f17)), (bc 18, .inl (cI, 30, .inl c_f18))] H := hP
  have hD : va_D A [(h0, oX0 b c_lines c_span c_rule c_odds o_wide o_high o_creeks o_houses o_widows o_acts), (b 10, .inl (cI, 12, .inl o_f10)), (b 11, .inl (cI, 6, .inl o_f11)), (b 12, .inl (cI, 7, .inl o_f12)), (b 13, .inl (cI, 7, .inl o_f13)), (b 14, .inl (cI, 7, .inl o_f14)), (b 15, .inl (cI, 7, .inl o_f15)), (b 16, .inl (cI, 7, .inl o_f16)), (b 17, .inl (cI, 56, .inl o_f17)), (b 18, .inl (cI, 30, .inl o_f18)), (h1, oX0 bc c_lines c_span c_rule c_odds c_wide c_high c_creeks c_houses c_widows c_acts), (bc 10, .inl (cI, 12, .inl c_f10)), (bc 11, .inl (cI, 6, .inl c_f11)), (bc 12, .inl (cI, 7, .inl c_f12)), (bc 13, .inl (cI, 7, .inl c_f13)), (bc 14, .inl (cI, 7, .inl c_f14)), (bc 15, .inl (cI, 7, .inl c_f15)), (bc 16, .inl (cI, 7, .inl c_f16)), (bc 17, .inl (cI, 56, .inl c_f17)), (bc 18, .inl (cI, 30, .inl c_f18))] := hD
  refine lv_aload_n hx hb dX0_become_32 rfl (lv_at hl 0 rfl) ?_
  refine lv_aload_n hx hb dX0_become_33 rfl (lv_at hl 1 rfl) ?_
  refine va_get (D := G) (ci := 0) (v := .int c_wide) (C := RX0) (T := TX0) (N := 19) hx hb hts iG_X0 hown hK hP 10 rfl rfl 4 (by decide) (hts _ w_71) (fun _ h9 => h9) rfl dX0_become_34 ?_
  refine va_put (D := G) (ci := 0) (v := .int c_wide) (ty := .int) (C := RX0) (T := TX0) (N := 19) hx hb hts iG_X0 tyX0 tyX0_ok nmX0 hown hK hP hD hS 0 rfl rfl 4 (by decide) (hts _ w_71) (fun _ h9 => h9) rfl (by decide +kernel) rfl rfl (Nat.le_of_ble_eq_true rfl) dX0_become_37 (fun H locs hP hD hS => ?_)
  have hP : va_P G vwCl [(h0, oX0 b c_lines c_span c_rule c_odds c_wide o_high o_creeks o_houses o_widows o_acts), (b 10, .inl (cI, 12, .inl o_f10)), (b 11, .inl (cI, 6, .inl o_f11)), (b 12, .inl (cI, 7, .inl o_f12)), (b 13, .inl (cI, 7, .inl o_f13)), (b 14, .inl (cI, 7, .inl o_f14)), (b 15, .inl (cI, 7, .inl o_f15)), (b 16, .inl (cI, 7, .inl o_f16)), (b 17, .inl (cI, 56, .inl o_f17)), (b 18, .inl (cI, 30, .inl o_f18)), (h1, oX0 bc c_lines c_span c_rule c_odds c_wide c_high c_creeks c_houses c_widows c_acts), (bc 10, .inl (cI, 12, .inl c_f10)), (bc 11, .inl (cI, 6, .inl c_f11)), (bc 12, .inl (cI, 7, .inl c_f12)), (bc 13, .inl (cI, 7, .inl c_f13)), (bc 14, .inl (cI, 7, .inl c_f14)), (bc 15, .inl (cI, 7, .inl c_f15)), (bc 16, .inl (cI, 7, .inl c_f16)), (bc 17, .inl (cI, 56, .inl c_f17)), (bc 18, .inl (cI, 30, .inl c_f18))] H := hP
  have hD : va_D A [(h0, oX0 b c_lines c_span c_rule c_odds c_wide o_high o_creeks o_houses o_widows o_acts), (b 10, .inl (cI, 12, .inl o_f10)), (b 11, .inl (cI, 6, .inl o_f11)), (b 12, .inl (cI, 7, .inl o_f12)), (b 13, .inl (cI, 7, .inl o_f13)), (b 14, .inl (cI, 7, .inl o_f14)), (b 15, .inl (cI, 7, .inl o_f15)), (b 16, .inl (cI, 7, .inl o_f16)), (b 17, .inl (cI, 56, .inl o_f17)), (b 18, .inl (cI, 30, .inl o_f18)), (h1, oX0 bc c_lines c_span c_rule c_odds c_wide c_high c_creeks c_houses c_widows c_acts), (bc 10, .inl (cI, 12, .inl c_f10)), (bc 11, .inl (cI, 6, .inl c_f11)), (bc 12, .inl (cI, 7, .inl c_f12)), (bc 13, .inl (cI, 7, .inl c_f13)), (bc 14, .inl (cI, 7, .inl c_f14)), (bc 15, .inl (cI, 7, .inl c_f15)), (bc 16, .inl (cI, 7, .inl c_f16)), (bc 17, .inl (cI, 56, .inl c_f17)), (bc 18, .inl (cI, 30, .inl c_f18))] := hD
  refine lv_aload_n hx hb dX0_become_40 rfl (lv_at hl 0 rfl) ?_
  refine lv_aload_n hx hb dX0_become_41 rfl (lv_at hl 1 rfl) ?_
  refine va_get (D := G) (ci := 0) (v := .int c_high) (C := RX0) (T := TX0) (N := 19) hx hb hts iG_X0 hown hK hP 10 rfl rfl 5 (by decide) (hts _ w_74) (fun _ h9 => h9) rfl dX0_become_42 ?_
  refine va_put (D := G) (ci := 0) (v := .int c_high) (ty := .int) (C := RX0) (T := TX0) (N := 19) hx hb hts iG_X0 tyX0 tyX0_ok nmX0 hown hK hP hD hS 0 rfl rfl 5 (by decide) (hts _ w_74) (fun _ h9 => h9) rfl (by decide +kernel) rfl rfl (Nat.le_of_ble_eq_true rfl) dX0_become_45 (fun H locs hP hD hS => ?_)
  have hP : va_P G vwCl [(h0, oX0 b c_lines c_span c_rule c_odds c_wide c_high o_creeks o_houses o_widows o_acts), (b 10, .inl (cI, 12, .inl o_f10)), (b 11, .inl (cI, 6, .inl o_f11)), (b 12, .inl (cI, 7, .inl o_f12)), (b 13, .inl (cI, 7, .inl o_f13)), (b 14, .inl (cI, 7, .inl o_f14)), (b 15, .inl (cI, 7, .inl o_f15)), (b 16, .inl (cI, 7, .inl o_f16)), (b 17, .inl (cI, 56, .inl o_f17)), (b 18, .inl (cI, 30, .inl o_f18)), (h1, oX0 bc c_lines c_span c_rule c_odds c_wide c_high c_creeks c_houses c_widows c_acts), (bc 10, .inl (cI, 12, .inl c_f10)), (bc 11, .inl (cI, 6, .inl c_f11)), (bc 12, .inl (cI, 7, .inl c_f12)), (bc 13, .inl (cI, 7, .inl c_f13)), (bc 14, .inl (cI, 7, .inl c_f14)), (bc 15, .inl (cI, 7, .inl c_f15)), (bc 16, .inl (cI, 7, .inl c_f16)), (bc 17, .inl (cI, 56, .inl c_f17)), (bc 18, .inl (cI, 30, .inl c_f18))] H := hP
  have hD : va_D A [(h0, oX0 b c_lines c_span c_rule c_odds c_wide c_high o_creeks o_houses o_widows o_acts), (b 10, .inl (cI, 12, .inl o_f10)), (b 11, .inl (cI, 6, .inl o_f11)), (b 12, .inl (cI, 7, .inl o_f12)), (b 13, .inl (cI, 7, .inl o_f13)), (b 14, .inl (cI, 7, .inl o_f14)), (b 15, .inl (cI, 7, .inl o_f15)), (b 16, .inl (cI, 7, .inl o_f16)), (b 17, .inl (cI, 56, .inl o_f17)), (b 18, .inl (cI, 30, .inl o_f18)), (h1, oX0 bc c_lines c_span c_rule c_odds c_wide c_high c_creeks c_houses c_widows c_acts), (bc 10, .inl (cI, 12, .inl c_f10)), (bc 11, .inl (cI, 6, .inl c_f11)), (bc 12, .inl (cI, 7, .inl c_f12)), (bc 13, .inl (cI, 7, .inl c_f13)), (bc 14, .inl (cI, 7, .inl c_f14)), (bc 15, .inl (cI, 7, .inl c_f15)), (bc 16, .inl (cI, 7, .inl c_f16)), (bc 17, .inl (cI, 56, .inl c_f17)), (bc 18, .inl (cI, 30, .inl c_f18))] := hD
  refine lv_aload_n hx hb dX0_become_48 rfl (lv_at hl 0 rfl) ?_
  refine lv_aload_n hx hb dX0_become_49 rfl (lv_at hl 1 rfl) ?_
  refine va_get (D := G) (ci := 0) (v := .int c_creeks) (C := RX0) (T := TX0) (N := 19) hx hb hts iG_X0 hown hK hP 10 rfl rfl 6 (by decide) (hts _ w_77) (fun _ h9 => h9) rfl dX0_become_50 ?_
  refine va_put (D := G) (ci := 0) (v := .int c_creeks) (ty := .int) (C := RX0) (T := TX0) (N := 19) hx hb hts iG_X0 tyX0 tyX0_ok nmX0 hown hK hP hD hS 0 rfl rfl 6 (by decide) (hts _ w_77) (fun _ h9 => h9) rfl (by decide +kernel) rfl rfl (Nat.le_of_ble_eq_true rfl) dX0_become_53 (fun H locs hP hD hS => ?_)
  have hP : va_P G vwCl [(h0, oX0 b c_lines c_span c_rule c_odds c_wide c_high c_creeks o_houses o_widows o_acts), (b 10, .inl (cI, 12, .inl o_f10)), (b 11, .inl (cI, 6, .inl o_f11)), (b 12, .inl (cI, 7, .inl o_f12)), (b 13, .inl (cI, 7, .inl o_f13)), (b 14, .inl (cI, 7, .inl o_f14)), (b 15, .inl (cI, 7, .inl o_f15)), (b 16, .inl (cI, 7, .inl o_f16)), (b 17, .inl (cI, 56, .inl o_f17)), (b 18, .inl (cI, 30, .inl o_f18)), (h1, oX0 bc c_lines c_span c_rule c_odds c_wide c_high c_creeks c_houses c_widows c_acts), (bc 10, .inl (cI, 12, .inl c_f10)), (bc 11, .inl (cI, 6, .inl c_f11)), (bc 12, .inl (cI, 7, .inl c_f12)), (bc 13, .inl (cI, 7, .inl c_f13)), (bc 14, .inl (cI, 7, .inl c_f14)), (bc 15, .inl (cI, 7, .inl c_f15)), (bc 16, .inl (cI, 7, .inl c_f16)), (bc 17, .inl (cI, 56, .inl c_f17)), (bc 18, .inl (cI, 30, .inl c_f18))] H := hP
  have hD : va_D A [(h0, oX0 b c_lines c_span c_rule c_odds c_wide c_high c_creeks o_houses o_widows o_acts), (b 10, .inl (cI, 12, .inl o_f10)), (b 11, .inl (cI, 6, .inl o_f11)), (b 12, .inl (cI, 7, .inl o_f12)), (b 13, .inl (cI, 7, .inl o_f13)), (b 14, .inl (cI, 7, .inl o_f14)), (b 15, .inl (cI, 7, .inl o_f15)), (b 16, .inl (cI, 7, .inl o_f16)), (b 17, .inl (cI, 56, .inl o_f17)), (b 18, .inl (cI, 30, .inl o_f18)), (h1, oX0 bc c_lines c_span c_rule c_odds c_wide c_high c_creeks c_houses c_widows c_acts), (bc 10, .inl (cI, 12, .inl c_f10)), (bc 11, .inl (cI, 6, .inl c_f11)), (bc 12, .inl (cI, 7, .inl c_f12)), (bc 13, .inl (cI, 7, .inl c_f13)), (bc 14, .inl (cI, 7, .inl c_f14)), (bc 15, .inl (cI, 7, .inl c_f15)), (bc 16, .inl (cI, 7, .inl c_f16)), (bc 17, .inl (cI, 56, .inl c_f17)), (bc 18, .inl (cI, 30, .inl c_f18))] := hD
  refine lv_aload_n hx hb dX0_become_56 rfl (lv_at hl 0 rfl) ?_
  refine lv_aload_n hx hb dX0_become_57 rfl (lv_at hl 1 rfl) ?_
  refine va_get (D := G) (ci := 0) (v := .int c_houses) (C := RX0) (T := TX0) (N := 19) hx hb hts iG_X0 hown hK hP 10 rfl rfl 7 (by decide) (hts _ w_80) (fun _ h9 => h9) rfl dX0_become_58 ?_
  refine va_put (D := G) (ci := 0) (v := .int c_houses) (ty := .int) (C := RX0) (T := TX0) (N := 19) hx hb hts iG_X0 tyX0 tyX0_ok nmX0 hown hK hP hD hS 0 rfl rfl 7 (by decide) (hts _ w_80) (fun _ h9 => h9) rfl (by decide +kernel) rfl rfl (Nat.le_of_ble_eq_true rfl) dX0_become_61 (fun H locs hP hD hS => ?_)
  have hP : va_P G vwCl [(h0, oX0 b c_lines c_span c_rule c_odds c_wide c_high c_creeks c_houses o_widows o_acts), (b 10, .inl (cI, 12, .inl o_f10)), (b 11, .inl (cI, 6, .inl o_f11)), (b 12, .inl (cI, 7, .inl o_f12)), (b 13, .inl (cI, 7, .inl o_f13)), (b 14, .inl (cI, 7, .inl o_f14)), (b 15, .inl (cI, 7, .inl o_f15)), (b 16, .inl (cI, 7, .inl o_f16)), (b 17, .inl (cI, 56, .inl o_f17)), (b 18, .inl (cI, 30, .inl o_f18)), (h1, oX0 bc c_lines c_span c_rule c_odds c_wide c_high c_creeks c_houses c_widows c_acts), (bc 10, .inl (cI, 12, .inl c_f10)), (bc 11, .inl (cI, 6, .inl c_f11)), (bc 12, .inl (cI, 7, .inl c_f12)), (bc 13, .inl (cI, 7, .inl c_f13)), (bc 14, .inl (cI, 7, .inl c_f14)), (bc 15, .inl (cI, 7, .inl c_f15)), (bc 16, .inl (cI, 7, .inl c_f16)), (bc 17, .inl (cI, 56, .inl c_f17)), (bc 18, .inl (cI, 30, .inl c_f18))] H := hP
  have hD : va_D A [(h0, oX0 b c_lines c_span c_rule c_odds c_wide c_high c_creeks c_houses o_widows o_acts), (b 10, .inl (cI, 12, .inl o_f10)), (b 11, .inl (cI, 6, .inl o_f11)), (b 12, .inl (cI, 7, .inl o_f12)), (b 13, .inl (cI, 7, .inl o_f13)), (b 14, .inl (cI, 7, .inl o_f14)), (b 15, .inl (cI, 7, .inl o_f15)), (b 16, .inl (cI, 7, .inl o_f16)), (b 17, .inl (cI, 56, .inl o_f17)), (b 18, .inl (cI, 30, .inl o_f18)), (h1, oX0 bc c_lines c_span c_rule c_odds c_wide c_high c_creeks c_houses c_widows c_acts), (bc 10, .inl (cI, 12, .inl c_f10)), (bc 11, .inl (cI, 6, .inl c_f11)), (bc 12, .inl (cI, 7, .inl c_f12)), (bc 13, .inl (cI, 7, .inl c_f13)), (bc 14, .inl (cI, 7, .inl c_f14)), (bc 15, .inl (cI, 7, .inl c_f15)), (bc 16, .inl (cI, 7, .inl c_f16)), (bc 17, .inl (cI, 56, .inl c_f17)), (bc 18, .inl (cI, 30, .inl c_f18))] := hD
  refine lv_aload_n hx hb dX0_become_64 rfl (lv_at hl 0 rfl) ?_
  refine lv_aload_n hx hb dX0_become_65 rfl (lv_at hl 1 rfl) ?_
  refine va_get (D := G) (ci := 0) (v := .int c_widows) (C := RX0) (T := TX0) (N := 19) hx hb hts iG_X0 hown hK hP 10 rfl rfl 8 (by decide) (hts _ w_86) (fun _ h9 => h9) rfl dX0_become_66 ?_
  refine va_put (D := G) (ci := 0) (v := .int c_widows) (ty := .int) (C := RX0) (T := TX0) (N := 19) hx hb hts iG_X0 tyX0 tyX0_ok nmX0 hown hK hP hD hS 0 rfl rfl 8 (by decide) (hts _ w_86) (fun _ h9 => h9) rfl (by decide +kernel) rfl rfl (Nat.le_of_ble_eq_true rfl) dX0_become_69 (fun H locs hP hD hS => ?_)
  have hP : va_P G vwCl [(h0, oX0 b c_lines c_span c_rule c_odds c_wide c_high c_creeks c_houses c_widows o_acts), (b 10, .inl (cI, 12, .inl o_f10)), (b 11, .inl (cI, 6, .inl o_f11)), (b 12, .inl (cI, 7, .inl o_f12)), (b 13, .inl (cI, 7, .inl o_f13)), (b 14, .inl (cI, 7, .inl o_f14)), (b 15, .inl (cI, 7, .inl o_f15)), (b 16, .inl (cI, 7, .inl o_f16)), (b 17, .inl (cI, 56, .inl o_f17)), (b 18, .inl (cI, 30, .inl o_f18)), (h1, oX0 bc c_lines c_span c_rule c_odds c_wide c_high c_creeks c_houses c_widows c_acts), (bc 10, .inl (cI, 12, .inl c_f10)), (bc 11, .inl (cI, 6, .inl c_f11)), (bc 12, .inl (cI, 7, .inl c_f12)), (bc 13, .inl (cI, 7, .inl c_f13)), (bc 14, .inl (cI, 7, .inl c_f14)), (bc 15, .inl (cI, 7, .inl c_f15)), (bc 16, .inl (cI, 7, .inl c_f16)), (bc 17, .inl (cI, 56, .inl c_f17)), (bc 18, .inl (cI, 30, .inl c_f18))] H := hP
  have hD : va_D A [(h0, oX0 b c_lines c_span c_rule c_odds c_wide c_high c_creeks c_houses c_widows o_acts), (b 10, .inl (cI, 12, .inl o_f10)), (b 11, .inl (cI, 6, .inl o_f11)), (b 12, .inl (cI, 7, .inl o_f12)), (b 13, .inl (cI, 7, .inl o_f13)), (b 14, .inl (cI, 7, .inl o_f14)), (b 15, .inl (cI, 7, .inl o_f15)), (b 16, .inl (cI, 7, .inl o_f16)), (b 17, .inl (cI, 56, .inl o_f17)), (b 18, .inl (cI, 30, .inl o_f18)), (h1, oX0 bc c_lines c_span c_rule c_odds c_wide c_high c_creeks c_houses c_widows c_acts), (bc 10, .inl (cI, 12, .inl c_f10)), (bc 11, .inl (cI, 6, .inl c_f11)), (bc 12, .inl (cI, 7, .inl c_f12)), (bc 13, .inl (cI, 7, .inl c_f13)), (bc 14, .inl (cI, 7, .inl c_f14)), (bc 15, .inl (cI, 7, .inl c_f15)), (bc 16, .inl (cI, 7, .inl c_f16)), (bc 17, .inl (cI, 56, .inl c_f17)), (bc 18, .inl (cI, 30, .inl c_f18))] := hD
  refine lv_aload_n hx hb dX0_become_72 rfl (lv_at hl 0 rfl) ?_
  refine lv_aload_n hx hb dX0_become_73 rfl (lv_at hl 1 rfl) ?_
  refine va_get (D := G) (ci := 0) (v := .int c_acts) (C := RX0) (T := TX0) (N := 19) hx hb hts iG_X0 hown hK hP 10 rfl rfl 9 (by decide) (hts _ w_89) (fun _ h9 => h9) rfl dX0_become_74 ?_
  refine va_put (D := G) (ci := 0) (v := .int c_acts) (ty := .int) (C := RX0) (T := TX0) (N := 19) hx hb hts iG_X0 tyX0 tyX0_ok nmX0 hown hK hP hD hS 0 rfl rfl 9 (by decide) (hts _ w_89) (fun _ h9 => h9) rfl (by decide +kernel) rfl rfl (Nat.le_of_ble_eq_true rfl) dX0_become_77 (fun H locs hP hD hS => ?_)
  have hP : va_P G vwCl [(h0, oX0 b c_lines c_span c_rule c_odds c_wide c_high c_creeks c_houses c_widows c_acts), (b 10, .inl (cI, 12, .inl o_f10)), (b 11, .inl (cI, 6, .inl o_f11)), (b 12, .inl (cI, 7, .inl o_f12)), (b 13, .inl (cI, 7, .inl o_f13)), (b 14, .inl (cI, 7, .inl o_f14)), (b 15, .inl (cI, 7, .inl o_f15)), (b 16, .inl (cI, 7, .inl o_f16)), (b 17, .inl (cI, 56, .inl o_f17)), (b 18, .inl (cI, 30, .inl o_f18)), (h1, oX0 bc c_lines c_span c_rule c_odds c_wide c_high c_creeks c_houses c_widows c_acts), (bc 10, .inl (cI, 12, .inl c_f10)), (bc 11, .inl (cI, 6, .inl c_f11)), (bc 12, .inl (cI, 7, .inl c_f12)), (bc 13, .inl (cI, 7, .inl c_f13)), (bc 14, .inl (cI, 7, .inl c_f14)), (bc 15, .inl (cI, 7, .inl c_f15)), (bc 16, .inl (cI, 7, .inl c_f16)), (bc 17, .inl (cI, 56, .inl c_f17)), (bc 18, .inl (cI, 30, .inl c_f18))] H := hP
  have hD : va_D A [(h0, oX0 b c_lines c_span c_rule c_odds c_wide c_high c_creeks c_houses c_widows c_acts), (b 10, .inl (cI, 12, .inl o_f10)), (b 11, .inl (cI, 6, .inl o_f11)), (b 12, .inl (cI, 7, .inl o_f12)), (b 13, .inl (cI, 7, .inl o_f13)), (b 14, .inl (cI, 7, .inl o_f14)), (b 15, .inl (cI, 7, .inl o_f15)), (b 16, .inl (cI, 7, .inl o_f16)), (b 17, .inl (cI, 56, .inl o_f17)), (b 18, .inl (cI, 30, .inl o_f18)), (h1, oX0 bc c_lines c_span c_rule c_odds c_wide c_high c_creeks c_houses c_widows c_acts), (bc 10, .inl (cI, 12, .inl c_f10)), (bc 11, .inl (cI, 6, .inl c_f11)), (bc 12, .inl (cI, 7, .inl c_f12)), (bc 13, .inl (cI, 7, .inl c_f13)), (bc 14, .inl (cI, 7, .inl c_f14)), (bc 15, .inl (cI, 7, .inl c_f15)), (bc 16, .inl (cI, 7, .inl c_f16)), (bc 17, .inl (cI, 56, .inl c_f17)), (bc 18, .inl (cI, 30, .inl c_f18))] := hD
  refine lv_aload_n hx hb dX0_become_80 rfl (lv_at hl 1 rfl) ?_
  refine va_get (D := G) (ci := 0) (v := .ref (bc 10)) (C := RX0) (T := TX0) (N := 19) hx hb hts iG_X0 hown hK hP 10 rfl rfl 10 (by decide) (hts _ w_91) (fun _ h9 => h9) rfl dX0_become_81 ?_
  refine lv_iconst (v := 0) hx hb dX0_become_84 (by decide) ?_
  refine lv_aload_n hx hb dX0_become_85 rfl (lv_at hl 0 rfl) ?_
  refine va_get (D := G) (ci := 0) (v := .ref (b 10)) (C := RX0) (T := TX0) (N := 19) hx hb hts iG_X0 hown hK hP 0 rfl rfl 10 (by decide) (hts _ w_91) (fun _ h9 => h9) rfl dX0_become_86 ?_
  refine lv_iconst (v := 0) hx hb dX0_become_89 (by decide) ?_
  refine lv_bipush (v := 12) hx hb dX0_become_90 (by decide) ?_
  refine va_copyi hx hb (by rw [hml]; exact hl.1.symm) hown (hts _ w_566) (hts _ w_568) (hts _ w_567) (hts _ w_17) hK hP hD hS 11 1 0 0 rfl rfl rfl rfl rfl (ix_nn ki_0 (by omega)) (ix_nn ki_0 (by omega)) (ix_nn ki_12 (by omega)) (by rw [ix_nat ki_0 (by omega), ix_nat ki_12 (by omega)]; omega) (by rw [ix_nat ki_0 (by omega), ix_nat ki_12 (by omega)]; omega) (fun _ _ => rfl) (Nat.le_of_ble_eq_true rfl) (Nat.le_of_ble_eq_true rfl) dX0_become_92 (fun H locs hP hD hS => ?_)
  generalize qf1 : va_cpy _ _ _ _ _ = f1 at hP hD
  have hP : va_P G vwCl [(h0, oX0 b c_lines c_span c_rule c_odds c_wide c_high c_creeks c_houses c_widows c_acts), (b 10, .inl (cI, 12, .inl f1)), (b 11, .inl (cI, 6, .inl o_f11)), (b 12, .inl (cI, 7, .inl o_f12)), (b 13, .inl (cI, 7, .inl o_f13)), (b 14, .inl (cI, 7, .inl o_f14)), (b 15, .inl (cI, 7, .inl o_f15)), (b 16, .inl (cI, 7, .inl o_f16)), (b 17, .inl (cI, 56, .inl o_f17)), (b 18, .inl (cI, 30, .inl o_f18)), (h1, oX0 bc c_lines c_span c_rule c_odds c_wide c_high c_creeks c_houses c_widows c_acts), (bc 10, .inl (cI, 12, .inl c_f10)), (bc 11, .inl (cI, 6, .inl c_f11)), (bc 12, .inl (cI, 7, .inl c_f12)), (bc 13, .inl (cI, 7, .inl c_f13)), (bc 14, .inl (cI, 7, .inl c_f14)), (bc 15, .inl (cI, 7, .inl c_f15)), (bc 16, .inl (cI, 7, .inl c_f16)), (bc 17, .inl (cI, 56, .inl c_f17)), (bc 18, .inl (cI, 30, .inl c_f18))] H := hP
  have hD : va_D A [(h0, oX0 b c_lines c_span c_rule c_odds c_wide c_high c_creeks c_houses c_widows c_acts), (b 10, .inl (cI, 12, .inl f1)), (b 11, .inl (cI, 6, .inl o_f11)), (b 12, .inl (cI, 7, .inl o_f12)), (b 13, .inl (cI, 7, .inl o_f13)), (b 14, .inl (cI, 7, .inl o_f14)), (b 15, .inl (cI, 7, .inl o_f15)), (b 16, .inl (cI, 7, .inl o_f16)), (b 17, .inl (cI, 56, .inl o_f17)), (b 18, .inl (cI, 30, .inl o_f18)), (h1, oX0 bc c_lines c_span c_rule c_odds c_wide c_high c_creeks c_houses c_widows c_acts), (bc 10, .inl (cI, 12, .inl c_f10)), (bc 11, .inl (cI, 6, .inl c_f11)), (bc 12, .inl (cI, 7, .inl c_f12)), (bc 13, .inl (cI, 7, .inl c_f13)), (bc 14, .inl (cI, 7, .inl c_f14)), (bc 15, .inl (cI, 7, .inl c_f15)), (bc 16, .inl (cI, 7, .inl c_f16)), (bc 17, .inl (cI, 56, .inl c_f17)), (bc 18, .inl (cI, 30, .inl c_f18))] := hD
  refine lv_aload_n hx hb dX0_become_95 rfl (lv_at hl 1 rfl) ?_
  refine va_get (D := G) (ci := 0) (v := .ref (bc 11)) (C := RX0) (T := TX0) (N := 19) hx hb hts iG_X0 hown hK hP 10 rfl rfl 11 (by decide) (hts _ w_94) (fun _ h9 => h9) rfl dX0_become_96 ?_
  refine lv_iconst (v := 0) hx hb dX0_become_99 (by decide) ?_
  refine lv_aload_n hx hb dX0_become_100 rfl (lv_at hl 0 rfl) ?_
  refine va_get (D := G) (ci := 0) (v := .ref (b 11)) (C := RX0) (T := TX0) (N := 19) hx hb hts iG_X0 hown hK hP 0 rfl rfl 11 (by decide) (hts _ w_94) (fun _ h9 => h9) rfl dX0_become_101 ?_
  refine lv_iconst (v := 0) hx hb dX0_become_104 (by decide) ?_
  refine lv_bipush (v := 6) hx hb dX0_become_105 (by decide) ?_
  refine va_copyi hx hb (by rw [hml]; exact hl.1.symm) hown (hts _ w_566) (hts _ w_568) (hts _ w_567) (hts _ w_17) hK hP hD hS 12 2 0 0 rfl rfl rfl rfl rfl (ix_nn ki_0 (by omega)) (ix_nn ki_0 (by omega)) (ix_nn ki_6 (by omega)) (by rw [ix_nat ki_0 (by omega), ix_nat ki_6 (by omega)]; omega) (by rw [ix_nat ki_0 (by omega), ix_nat ki_6 (by omega)]; omega) (fun _ _ => rfl) (Nat.le_of_ble_eq_true rfl) (Nat.le_of_ble_eq_true rfl) dX0_become_107 (fun H locs hP hD hS => ?_)
  generalize qf2 : va_cpy _ _ _ _ _ = f2 at hP hD
  have hP : va_P G vwCl [(h0, oX0 b c_lines c_span c_rule c_odds c_wide c_high c_creeks c_houses c_widows c_acts), (b 10, .inl (cI, 12, .inl f1)), (b 11, .inl (cI, 6, .inl f2)), (b 12, .inl (cI, 7, .inl o_f12)), (b 13, .inl (cI, 7, .inl o_f13)), (b 14, .inl (cI, 7, .inl o_f14)), (b 15, .inl (cI, 7, .inl o_f15)), (b 16, .inl (cI, 7, .inl o_f16)), (b 17, .inl (cI, 56, .inl o_f17)), (b 18, .inl (cI, 30, .inl o_f18)), (h1, oX0 bc c_lines c_span c_rule c_odds c_wide c_high c_creeks c_houses c_widows c_acts), (bc 10, .inl (cI, 12, .inl c_f10)), (bc 11, .inl (cI, 6, .inl c_f11)), (bc 12, .inl (cI, 7, .inl c_f12)), (bc 13, .inl (cI, 7, .inl c_f13)), (bc 14, .inl (cI, 7, .inl c_f14)), (bc 15, .inl (cI, 7, .inl c_f15)), (bc 16, .inl (cI, 7, .inl c_f16)), (bc 17, .inl (cI, 56, .inl c_f17)), (bc 18, .inl (cI, 30, .inl c_f18))] H := hP
  have hD : va_D A [(h0, oX0 b c_lines c_span c_rule c_odds c_wide c_high c_creeks c_houses c_widows c_acts), (b 10, .inl (cI, 12, .inl f1)), (b 11, .inl (cI, 6, .inl f2)), (b 12, .inl (cI, 7, .inl o_f12)), (b 13, .inl (cI, 7, .inl o_f13)), (b 14, .inl (cI, 7, .inl o_f14)), (b 15, .inl (cI, 7, .inl o_f15)), (b 16, .inl (cI, 7, .inl o_f16)), (b 17, .inl (cI, 56, .inl o_f17)), (b 18, .inl (cI, 30, .inl o_f18)), (h1, oX0 bc c_lines c_span c_rule c_odds c_wide c_high c_creeks c_houses c_widows c_acts), (bc 10, .inl (cI, 12, .inl c_f10)), (bc 11, .inl (cI, 6, .inl c_f11)), (bc 12, .inl (cI, 7, .inl c_f12)), (bc 13, .inl (cI, 7, .inl c_f13)), (bc 14, .inl (cI, 7, .inl c_f14)), (bc 15, .inl (cI, 7, .inl c_f15)), (bc 16, .inl (cI, 7, .inl c_f16)), (bc 17, .inl (cI, 56, .inl c_f17)), (bc 18, .inl (cI, 30, .inl c_f18))] := hD
  refine lv_aload_n hx hb dX0_become_110 rfl (lv_at hl 1 rfl) ?_
  refine va_get (D := G) (ci := 0) (v := .ref (bc 12)) (C := RX0) (T := TX0) (N := 19) hx hb hts iG_X0 hown hK hP 10 rfl rfl 12 (by decide) (hts _ w_97) (fun _ h9 => h9) rfl dX0_become_111 ?_
  refine lv_iconst (v := 0) hx hb dX0_become_114 (by decide) ?_
  refine lv_aload_n hx hb dX0_become_115 rfl (lv_at hl 0 rfl) ?_
  refine va_get (D := G) (ci := 0) (v := .ref (b 12)) (C := RX0) (T := TX0) (N := 19) hx hb hts iG_X0 hown hK hP 0 rfl rfl 12 (by decide) (hts _ w_97) (fun _ h9 => h9) rfl dX0_become_116 ?_
  refine lv_iconst (v := 0) hx hb dX0_become_119 (by decide) ?_
  refine lv_bipush (v := 7) hx hb dX0_become_120 (by decide) ?_
  refine va_copyi hx hb (by rw [hml]; exact hl.1.symm) hown (hts _ w_566) (hts _ w_568) (hts _ w_567) (hts _ w_17) hK hP hD hS 13 3 0 0 rfl rfl rfl rfl rfl (ix_nn ki_0 (by omega)) (ix_nn ki_0 (by omega)) (ix_nn ki_7 (by omega)) (by rw [ix_nat ki_0 (by omega), ix_nat ki_7 (by omega)]; omega) (by rw [ix_nat ki_0 (by omega), ix_nat ki_7 (by omega)]; omega) (fun _ _ => rfl) (Nat.le_of_ble_eq_true rfl) (Nat.le_of_ble_eq_true rfl) dX0_become_122 (fun H locs hP hD hS => ?_)
  generalize qf3 : va_cpy _ _ _ _ _ = f3 at hP hD
  have hP : va_P G vwCl [(h0, oX0 b c_lines c_span c_rule c_odds c_wide c_high c_creeks c_houses c_widows c_acts), (b 10, .inl (cI, 12, .inl f1)), (b 11, .inl (cI, 6, .inl f2)), (b 12, .inl (cI, 7, .inl f3)), (b 13, .inl (cI, 7, .inl o_f13)), (b 14, .inl (cI, 7, .inl o_f14)), (b 15, .inl (cI, 7, .inl o_f15)), (b 16, .inl (cI, 7, .inl o_f16)), (b 17, .inl (cI, 56, .inl o_f17)), (b 18, .inl (cI, 30, .inl o_f18)), (h1, oX0 bc c_lines c_span c_rule c_odds c_wide c_high c_creeks c_houses c_widows c_acts), (bc 10, .inl (cI, 12, .inl c_f10)), (bc 11, .inl (cI, 6, .inl c_f11)), (bc 12, .inl (cI, 7, .inl c_f12)), (bc 13, .inl (cI, 7, .inl c_f13)), (bc 14, .inl (cI, 7, .inl c_f14)), (bc 15, .inl (cI, 7, .inl c_f15)), (bc 16, .inl (cI, 7, .inl c_f16)), (bc 17, .inl (cI, 56, .inl c_f17)), (bc 18, .inl (cI, 30, .inl c_f18))] H := hP
  have hD : va_D A [(h0, oX0 b c_lines c_span c_rule c_odds c_wide c_high c_creeks c_houses c_widows c_acts), (b 10, .inl (cI, 12, .inl f1)), (b 11, .inl (cI, 6, .inl f2)), (b 12, .inl (cI, 7, .inl f3)), (b 13, .inl (cI, 7, .inl o_f13)), (b 14, .inl (cI, 7, .inl o_f14)), (b 15, .inl (cI, 7, .inl o_f15)), (b 16, .inl (cI, 7, .inl o_f16)), (b 17, .inl (cI, 56, .inl o_f17)), (b 18, .inl (cI, 30, .inl o_f18)), (h1, oX0 bc c_lines c_span c_rule c_odds c_wide c_high c_creeks c_houses c_widows c_acts), (bc 10, .inl (cI, 12, .inl c_f10)), (bc 11, .inl (cI, 6, .inl c_f11)), (bc 12, .inl (cI, 7, .inl c_f12)), (bc 13, .inl (cI, 7, .inl c_f13)), (bc 14, .inl (cI, 7, .inl c_f14)), (bc 15, .inl (cI, 7, .inl c_f15)), (bc 16, .inl (cI, 7, .inl c_f16)), (bc 17, .inl (cI, 56, .inl c_f17)), (bc 18, .inl (cI, 30, .inl c_f18))] := hD
  refine lv_aload_n hx hb dX0_become_125 rfl (lv_at hl 1 rfl) ?_
  refine va_get (D := G) (ci := 0) (v := .ref (bc 13)) (C := RX0) (T := TX0) (N := 19) hx hb hts iG_X0 hown hK hP 10 rfl rfl 13 (by decide) (hts _ w_101) (fun _ h9 => h9) rfl dX0_become_126 ?_
  refine lv_iconst (v := 0) hx hb dX0_become_129 (by decide) ?_
  refine lv_aload_n hx hb dX0_become_130 rfl (lv_at hl 0 rfl) ?_
  refine va_get (D := G) (ci := 0) (v := .ref (b 13)) (C := RX0) (T := TX0) (N := 19) hx hb hts iG_X0 hown hK hP 0 rfl rfl 13 (by decide) (hts _ w_101) (fun _ h9 => h9) rfl dX0_become_131 ?_
  refine lv_iconst (v := 0) hx hb dX0_become_134 (by decide) ?_
  refine lv_bipush (v := 7) hx hb dX0_become_135 (by decide) ?_
  refine va_copyi hx hb (by rw [hml]; exact hl.1.symm) hown (hts _ w_566) (hts _ w_568) (hts _ w_567) (hts _ w_17) hK hP hD hS 14 4 0 0 rfl rfl rfl rfl rfl (ix_nn ki_0 (by omega)) (ix_nn ki_0 (by omega)) (ix_nn ki_7 (by omega)) (by rw [ix_nat ki_0 (by omega), ix_nat ki_7 (by omega)]; omega) (by rw [ix_nat ki_0 (by omega), ix_nat ki_7 (by omega)]; omega) (fun _ _ => rfl) (Nat.le_of_ble_eq_true rfl) (Nat.le_of_ble_eq_true rfl) dX0_become_137 (fun H locs hP hD hS => ?_)
  generalize qf4 : va_cpy _ _ _ _ _ = f4 at hP hD
  have hP : va_P G vwCl [(h0, oX0 b c_lines c_span c_rule c_odds c_wide c_high c_creeks c_houses c_widows c_acts), (b 10, .inl (cI, 12, .inl f1)), (b 11, .inl (cI, 6, .inl f2)), (b 12, .inl (cI, 7, .inl f3)), (b 13, .inl (cI, 7, .inl f4)), (b 14, .inl (cI, 7, .inl o_f14)), (b 15, .inl (cI, 7, .inl o_f15)), (b 16, .inl (cI, 7, .inl o_f16)), (b 17, .inl (cI, 56, .inl o_f17)), (b 18, .inl (cI, 30, .inl o_f18)), (h1, oX0 bc c_lines c_span c_rule c_odds c_wide c_high c_creeks c_houses c_widows c_acts), (bc 10, .inl (cI, 12, .inl c_f10)), (bc 11, .inl (cI, 6, .inl c_f11)), (bc 12, .inl (cI, 7, .inl c_f12)), (bc 13, .inl (cI, 7, .inl c_f13)), (bc 14, .inl (cI, 7, .inl c_f14)), (bc 15, .inl (cI, 7, .inl c_f15)), (bc 16, .inl (cI, 7, .inl c_f16)), (bc 17, .inl (cI, 56, .inl c_f17)), (bc 18, .inl (cI, 30, .inl c_f18))] H := hP
  have hD : va_D A [(h0, oX0 b c_lines c_span c_rule c_odds c_wide c_high c_creeks c_houses c_widows c_acts), (b 10, .inl (cI, 12, .inl f1)), (b 11, .inl (cI, 6, .inl f2)), (b 12, .inl (cI, 7, .inl f3)), (b 13, .inl (cI, 7, .inl f4)), (b 14, .inl (cI, 7, .inl o_f14)), (b 15, .inl (cI, 7, .inl o_f15)), (b 16, .inl (cI, 7, .inl o_f16)), (b 17, .inl (cI, 56, .inl o_f17)), (b 18, .inl (cI, 30, .inl o_f18)), (h1, oX0 bc c_lines c_span c_rule c_odds c_wide c_high c_creeks c_houses c_widows c_acts), (bc 10, .inl (cI, 12, .inl c_f10)), (bc 11, .inl (cI, 6, .inl c_f11)), (bc 12, .inl (cI, 7, .inl c_f12)), (bc 13, .inl (cI, 7, .inl c_f13)), (bc 14, .inl (cI, 7, .inl c_f14)), (bc 15, .inl (cI, 7, .inl c_f15)), (bc 16, .inl (cI, 7, .inl c_f16)), (bc 17, .inl (cI, 56, .inl c_f17)), (bc 18, .inl (cI, 30, .inl c_f18))] := hD
  refine lv_aload_n hx hb dX0_become_140 rfl (lv_at hl 1 rfl) ?_
  refine va_get (D := G) (ci := 0) (v := .ref (bc 14)) (C := RX0) (T := TX0) (N := 19) hx hb hts iG_X0 hown hK hP 10 rfl rfl 14 (by decide) (hts _ w_105) (fun _ h9 => h9) rfl dX0_become_141 ?_
  refine lv_iconst (v := 0) hx hb dX0_become_144 (by decide) ?_
  refine lv_aload_n hx hb dX0_become_145 rfl (lv_at hl 0 rfl) ?_
  refine va_get (D := G) (ci := 0) (v := .ref (b 14)) (C := RX0) (T := TX0) (N := 19) hx hb hts iG_X0 hown hK hP 0 rfl rfl 14 (by decide) (hts _ w_105) (fun _ h9 => h9) rfl dX0_become_146 ?_
  refine lv_iconst (v := 0) hx hb dX0_become_149 (by decide) ?_
  refine lv_bipush (v := 7) hx hb dX0_become_150 (by decide) ?_
  refine va_copyi hx hb (by rw [hml]; exact hl.1.symm) hown (hts _ w_566) (hts _ w_568) (hts _ w_567) (hts _ w_17) hK hP hD hS 15 5 0 0 rfl rfl rfl rfl rfl (ix_nn ki_0 (by omega)) (ix_nn ki_0 (by omega)) (ix_nn ki_7 (by omega)) (by rw [ix_nat ki_0 (by omega), ix_nat ki_7 (by omega)]; omega) (by rw [ix_nat ki_0 (by omega), ix_nat ki_7 (by omega)]; omega) (fun _ _ => rfl) (Nat.le_of_ble_eq_true rfl) (Nat.le_of_ble_eq_true rfl) dX0_become_152 (fun H locs hP hD hS => ?_)
  generalize qf5 : va_cpy _ _ _ _ _ = f5 at hP hD
  have hi6 : ai f5 7 (-2147483648) 40 := by rw [← qf5]; exact ai_cpy ha_c_f14 ha_o_f14 (by rw [ix_nat ki_0 (by omega), ix_nat ki_7 (by omega)]; omega)
  have hP : va_P G vwCl [(h0, oX0 b c_lines c_span c_rule c_odds c_wide c_high c_creeks c_houses c_widows c_acts), (b 10, .inl (cI, 12, .inl f1)), (b 11, .inl (cI, 6, .inl f2)), (b 12, .inl (cI, 7, .inl f3)), (b 13, .inl (cI, 7, .inl f4)), (b 14, .inl (cI, 7, .inl f5)), (b 15, .inl (cI, 7, .inl o_f15)), (b 16, .inl (cI, 7, .inl o_f16)), (b 17, .inl (cI, 56, .inl o_f17)), (b 18, .inl (cI, 30, .inl o_f18)), (h1, oX0 bc c_lines c_span c_rule c_odds c_wide c_high c_creeks c_houses c_widows c_acts), (bc 10, .inl (cI, 12, .inl c_f10)), (bc 11, .inl (cI, 6, .inl c_f11)), (bc 12, .inl (cI, 7, .inl c_f12)), (bc 13, .inl (cI, 7, .inl c_f13)), (bc 14, .inl (cI, 7, .inl c_f14)), (bc 15, .inl (cI, 7, .inl c_f15)), (bc 16, .inl (cI, 7, .inl c_f16)), (bc 17, .inl (cI, 56, .inl c_f17)), (bc 18, .inl (cI, 30, .inl c_f18))] H := hP
  have hD : va_D A [(h0, oX0 b c_lines c_span c_rule c_odds c_wide c_high c_creeks c_houses c_widows c_acts), (b 10, .inl (cI, 12, .inl f1)), (b 11, .inl (cI, 6, .inl f2)), (b 12, .inl (cI, 7, .inl f3)), (b 13, .inl (cI, 7, .inl f4)), (b 14, .inl (cI, 7, .inl f5)), (b 15, .inl (cI, 7, .inl o_f15)), (b 16, .inl (cI, 7, .inl o_f16)), (b 17, .inl (cI, 56, .inl o_f17)), (b 18, .inl (cI, 30, .inl o_f18)), (h1, oX0 bc c_lines c_span c_rule c_odds c_wide c_high c_creeks c_houses c_widows c_acts), (bc 10, .inl (cI, 12, .inl c_f10)), (bc 11, .inl (cI, 6, .inl c_f11)), (bc 12, .inl (cI, 7, .inl c_f12)), (bc 13, .inl (cI, 7, .inl c_f13)), (bc 14, .inl (cI, 7, .inl c_f14)), (bc 15, .inl (cI, 7, .inl c_f15)), (bc 16, .inl (cI, 7, .inl c_f16)), (bc 17, .inl (cI, 56, .inl c_f17)), (bc 18, .inl (cI, 30, .inl c_f18))] := hD
  refine lv_aload_n hx hb dX0_become_155 rfl (lv_at hl 1 rfl) ?_
  refine va_get (D := G) (ci := 0) (v := .ref (bc 15)) (C := RX0) (T := TX0) (N := 19) hx hb hts iG_X0 hown hK hP 10 rfl rfl 15 (by decide) (hts _ w_109) (fun _ h9 => h9) rfl dX0_become_156 ?_
  refine lv_iconst (v := 0) hx hb dX0_become_159 (by decide) ?_
  refine lv_aload_n hx hb dX0_become_160 rfl (lv_at hl 0 rfl) ?_
  refine va_get (D := G) (ci := 0) (v := .ref (b 15)) (C := RX0) (T := TX0) (N := 19) hx hb hts iG_X0 hown hK hP 0 rfl rfl 15 (by decide) (hts _ w_109) (fun _ h9 => h9) rfl dX0_become_161 ?_
  refine lv_iconst (v := 0) hx hb dX0_become_164 (by decide) ?_
  refine lv_bipush (v := 7) hx hb dX0_become_165 (by decide) ?_
  refine va_copyi hx hb (by rw [hml]; exact hl.1.symm) hown (hts _ w_566) (hts _ w_568) (hts _ w_567) (hts _ w_17) hK hP hD hS 16 6 0 0 rfl rfl rfl rfl rfl (ix_nn ki_0 (by omega)) (ix_nn ki_0 (by omega)) (ix_nn ki_7 (by omega)) (by rw [ix_nat ki_0 (by omega), ix_nat ki_7 (by omega)]; omega) (by rw [ix_nat ki_0 (by omega), ix_nat ki_7 (by omega)]; omega) (fun _ _ => rfl) (Nat.le_of_ble_eq_true rfl) (Nat.le_of_ble_eq_true rfl) dX0_become_167 (fun H locs hP hD hS => ?_)
  generalize qf7 : va_cpy _ _ _ _ _ = f7 at hP hD
  have hP : va_P G vwCl [(h0, oX0 b c_lines c_span c_rule c_odds c_wide c_high c_creeks c_houses c_widows c_acts), (b 10, .inl (cI, 12, .inl f1)), (b 11, .inl (cI, 6, .inl f2)), (b 12, .inl (cI, 7, .inl f3)), (b 13, .inl (cI, 7, .inl f4)), (b 14, .inl (cI, 7, .inl f5)), (b 15, .inl (cI, 7, .inl f7)), (b 16, .inl (cI, 7, .inl o_f16)), (b 17, .inl (cI, 56, .inl o_f17)), (b 18, .inl (cI, 30, .inl o_f18)), (h1, oX0 bc c_lines c_span c_rule c_odds c_wide c_high c_creeks c_houses c_widows c_acts), (bc 10, .inl (cI, 12, .inl c_f10)), (bc 11, .inl (cI, 6, .inl c_f11)), (bc 12, .inl (cI, 7, .inl c_f12)), (bc 13, .inl (cI, 7, .inl c_f13)), (bc 14, .inl (cI, 7, .inl c_f14)), (bc 15, .inl (cI, 7, .inl c_f15)), (bc 16, .inl (cI, 7, .inl c_f16)), (bc 17, .inl (cI, 56, .inl c_f17)), (bc 18, .inl (cI, 30, .inl c_f18))] H := hP
  have hD : va_D A [(h0, oX0 b c_lines c_span c_rule c_odds c_wide c_high c_creeks c_houses c_widows c_acts), (b 10, .inl (cI, 12, .inl f1)), (b 11, .inl (cI, 6, .inl f2)), (b 12, .inl (cI, 7, .inl f3)), (b 13, .inl (cI, 7, .inl f4)), (b 14, .inl (cI, 7, .inl f5)), (b 15, .inl (cI, 7, .inl f7)), (b 16, .inl (cI, 7, .inl o_f16)), (b 17, .inl (cI, 56, .inl o_f17)), (b 18, .inl (cI, 30, .inl o_f18)), (h1, oX0 bc c_lines c_span c_rule c_odds c_wide c_high c_creeks c_houses c_widows c_acts), (bc 10, .inl (cI, 12, .inl c_f10)), (bc 11, .inl (cI, 6, .inl c_f11)), (bc 12, .inl (cI, 7, .inl c_f12)), (bc 13, .inl (cI, 7, .inl c_f13)), (bc 14, .inl (cI, 7, .inl c_f14)), (bc 15, .inl (cI, 7, .inl c_f15)), (bc 16, .inl (cI, 7, .inl c_f16)), (bc 17, .inl (cI, 56, .inl c_f17)), (bc 18, .inl (cI, 30, .inl c_f18))] := hD
  refine lv_aload_n hx hb dX0_become_170 rfl (lv_at hl 1 rfl) ?_
  refine va_get (D := G) (ci := 0) (v := .ref (bc 16)) (C := RX0) (T := TX0) (N := 19) hx hb hts iG_X0 hown hK hP 10 rfl rfl 16 (by decide) (hts _ w_113) (fun _ h9 => h9) rfl dX0_become_171 ?_
  refine lv_iconst (v := 0) hx hb dX0_become_174 (by decide) ?_
  refine lv_aload_n hx hb dX0_become_175 rfl (lv_at hl 0 rfl) ?_
  refine va_get (D := G) (ci := 0) (v := .ref (b 16)) (C := RX0) (T := TX0) (N := 19) hx hb hts iG_X0 hown hK hP 0 rfl rfl 16 (by decide) (hts _ w_113) (fun _ h9 => h9) rfl dX0_become_176 ?_
  refine lv_iconst (v := 0) hx hb dX0_become_179 (by decide) ?_
  refine lv_bipush (v := 7) hx hb dX0_become_180 (by decide) ?_
  refine va_copyi hx hb (by rw [hml]; exact hl.1.symm) hown (hts _ w_566) (hts _ w_568) (hts _ w_567) (hts _ w_17) hK hP hD hS 17 7 0 0 rfl rfl rfl rfl rfl (ix_nn ki_0 (by omega)) (ix_nn ki_0 (by omega)) (ix_nn ki_7 (by omega)) (by rw [ix_nat ki_0 (by omega), ix_nat ki_7 (by omega)]; omega) (by rw [ix_nat ki_0 (by omega), ix_nat ki_7 (by omega)]; omega) (fun _ _ => rfl) (Nat.le_of_ble_eq_true rfl) (Nat.le_of_ble_eq_true rfl) dX0_become_182 (fun H locs hP hD hS => ?_)
  generalize qf8 : va_cpy _ _ _ _ _ = f8 at hP hD
  have hi9 : ai f8 7 (-2147483648) 8 := by rw [← qf8]; exact ai_cpy ha_c_f16 ha_o_f16 (by rw [ix_nat ki_0 (by omega), ix_nat ki_7 (by omega)]; omega)
  have hP : va_P G vwCl [(h0, oX0 b c_lines c_span c_rule c_odds c_wide c_high c_creeks c_houses c_widows c_acts), (b 10, .inl (cI, 12, .inl f1)), (b 11, .inl (cI, 6, .inl f2)), (b 12, .inl (cI, 7, .inl f3)), (b 13, .inl (cI, 7, .inl f4)), (b 14, .inl (cI, 7, .inl f5)), (b 15, .inl (cI, 7, .inl f7)), (b 16, .inl (cI, 7, .inl f8)), (b 17, .inl (cI, 56, .inl o_f17)), (b 18, .inl (cI, 30, .inl o_f18)), (h1, oX0 bc c_lines c_span c_rule c_odds c_wide c_high c_creeks c_houses c_widows c_acts), (bc 10, .inl (cI, 12, .inl c_f10)), (bc 11, .inl (cI, 6, .inl c_f11)), (bc 12, .inl (cI, 7, .inl c_f12)), (bc 13, .inl (cI, 7, .inl c_f13)), (bc 14, .inl (cI, 7, .inl c_f14)), (bc 15, .inl (cI, 7, .inl c_f15)), (bc 16, .inl (cI, 7, .inl c_f16)), (bc 17, .inl (cI, 56, .inl c_f17)), (bc 18, .inl (cI, 30, .inl c_f18))] H := hP
  have hD : va_D A [(h0, oX0 b c_lines c_span c_rule c_odds c_wide c_high c_creeks c_houses c_widows c_acts), (b 10, .inl (cI, 12, .inl f1)), (b 11, .inl (cI, 6, .inl f2)), (b 12, .inl (cI, 7, .inl f3)), (b 13, .inl (cI, 7, .inl f4)), (b 14, .inl (cI, 7, .inl f5)), (b 15, .inl (cI, 7, .inl f7)), (b 16, .inl (cI, 7, .inl f8)), (b 17, .inl (cI, 56, .inl o_f17)), (b 18, .inl (cI, 30, .inl o_f18)), (h1, oX0 bc c_lines c_span c_rule c_odds c_wide c_high c_creeks c_houses c_widows c_acts), (bc 10, .inl (cI, 12, .inl c_f10)), (bc 11, .inl (cI, 6, .inl c_f11)), (bc 12, .inl (cI, 7, .inl c_f12)), (bc 13, .inl (cI, 7, .inl c_f13)), (bc 14, .inl (cI, 7, .inl c_f14)), (bc 15, .inl (cI, 7, .inl c_f15)), (bc 16, .inl (cI, 7, .inl c_f16)), (bc 17, .inl (cI, 56, .inl c_f17)), (bc 18, .inl (cI, 30, .inl c_f18))] := hD
  refine lv_aload_n hx hb dX0_become_185 rfl (lv_at hl 1 rfl) ?_
  refine va_get (D := G) (ci := 0) (v := .ref (bc 17)) (C := RX0) (T := TX0) (N := 19) hx hb hts iG_X0 hown hK hP 10 rfl rfl 17 (by decide) (hts _ w_117) (fun _ h9 => h9) rfl dX0_become_186 ?_
  refine lv_iconst (v := 0) hx hb dX0_become_189 (by decide) ?_
  refine lv_aload_n hx hb dX0_become_190 rfl (lv_at hl 0 rfl) ?_
  refine va_get (D := G) (ci := 0) (v := .ref (b 17)) (C := RX0) (T := TX0) (N := 19) hx hb hts iG_X0 hown hK hP 0 rfl rfl 17 (by decide) (hts _ w_117) (fun _ h9 => h9) rfl dX0_become_191 ?_
  refine lv_iconst (v := 0) hx hb dX0_become_194 (by decide) ?_
  refine lv_bipush (v := 56) hx hb dX0_become_195 (by decide) ?_
  refine va_copyi hx hb (by rw [hml]; exact hl.1.symm) hown (hts _ w_566) (hts _ w_568) (hts _ w_567) (hts _ w_17) hK hP hD hS 18 8 0 0 rfl rfl rfl rfl rfl (ix_nn ki_0 (by omega)) (ix_nn ki_0 (by omega)) (ix_nn ki_56 (by omega)) (by rw [ix_nat ki_0 (by omega), ix_nat ki_56 (by omega)]; omega) (by rw [ix_nat ki_0 (by omega), ix_nat ki_56 (by omega)]; omega) (fun _ _ => rfl) (Nat.le_of_ble_eq_true rfl) (Nat.le_of_ble_eq_true rfl) dX0_become_197 (fun H locs hP hD hS => ?_)
  generalize qf10 : va_cpy _ _ _ _ _ = f10 at hP hD
  have hP : va_P G vwCl [(h0, oX0 b c_lines c_span c_rule c_odds c_wide c_high c_creeks c_houses c_widows c_acts), (b 10, .inl (cI, 12, .inl f1)), (b 11, .inl (cI, 6, .inl f2)), (b 12, .inl (cI, 7, .inl f3)), (b 13, .inl (cI, 7, .inl f4)), (b 14, .inl (cI, 7, .inl f5)), (b 15, .inl (cI, 7, .inl f7)), (b 16, .inl (cI, 7, .inl f8)), (b 17, .inl (cI, 56, .inl f10)), (b 18, .inl (cI, 30, .inl o_f18)), (h1, oX0 bc c_lines c_span c_rule c_odds c_wide c_high c_creeks c_houses c_widows c_acts), (bc 10, .inl (cI, 12, .inl c_f10)), (bc 11, .inl (cI, 6, .inl c_f11)), (bc 12, .inl (cI, 7, .inl c_f12)), (bc 13, .inl (cI, 7, .inl c_f13)), (bc 14, .inl (cI, 7, .inl c_f14)), (bc 15, .inl (cI, 7, .inl c_f15)), (bc 16, .inl (cI, 7, .inl c_f16)), (bc 17, .inl (cI, 56, .inl c_f17)), (bc 18, .inl (cI, 30, .inl c_f18))] H := hP
  have hD : va_D A [(h0, oX0 b c_lines c_span c_rule c_odds c_wide c_high c_creeks c_houses c_widows c_acts), (b 10, .inl (cI, 12, .inl f1)), (b 11, .inl (cI, 6, .inl f2)), (b 12, .inl (cI, 7, .inl f3)), (b 13, .inl (cI, 7, .inl f4)), (b 14, .inl (cI, 7, .inl f5)), (b 15, .inl (cI, 7, .inl f7)), (b 16, .inl (cI, 7, .inl f8)), (b 17, .inl (cI, 56, .inl f10)), (b 18, .inl (cI, 30, .inl o_f18)), (h1, oX0 bc c_lines c_span c_rule c_odds c_wide c_high c_creeks c_houses c_widows c_acts), (bc 10, .inl (cI, 12, .inl c_f10)), (bc 11, .inl (cI, 6, .inl c_f11)), (bc 12, .inl (cI, 7, .inl c_f12)), (bc 13, .inl (cI, 7, .inl c_f13)), (bc 14, .inl (cI, 7, .inl c_f14)), (bc 15, .inl (cI, 7, .inl c_f15)), (bc 16, .inl (cI, 7, .inl c_f16)), (bc 17, .inl (cI, 56, .inl c_f17)), (bc 18, .inl (cI, 30, .inl c_f18))] := hD
  refine lv_aload_n hx hb dX0_become_200 rfl (lv_at hl 1 rfl) ?_
  refine va_get (D := G) (ci := 0) (v := .ref (bc 18)) (C := RX0) (T := TX0) (N := 19) hx hb hts iG_X0 hown hK hP 10 rfl rfl 18 (by decide) (hts _ w_121) (fun _ h9 => h9) rfl dX0_become_201 ?_
  refine lv_iconst (v := 0) hx hb dX0_become_204 (by decide) ?_
  refine lv_aload_n hx hb dX0_become_205 rfl (lv_at hl 0 rfl) ?_
  refine va_get (D := G) (ci := 0) (v := .ref (b 18)) (C := RX0) (T := TX0) (N := 19) hx hb hts iG_X0 hown hK hP 0 rfl rfl 18 (by decide) (hts _ w_121) (fun _ h9 => h9) rfl dX0_become_206 ?_
  refine lv_iconst (v := 0) hx hb dX0_become_209 (by decide) ?_
  refine lv_bipush (v := 30) hx hb dX0_become_210 (by decide) ?_
  refine va_copyi hx hb (by rw [hml]; exact hl.1.symm) hown (hts _ w_566) (hts _ w_568) (hts _ w_567) (hts _ w_17) hK hP hD hS 19 9 0 0 rfl rfl rfl rfl rfl (ix_nn ki_0 (by omega)) (ix_nn ki_0 (by omega)) (ix_nn ki_30 (by omega)) (by rw [ix_nat ki_0 (by omega), ix_nat ki_30 (by omega)]; omega) (by rw [ix_nat ki_0 (by omega), ix_nat ki_30 (by omega)]; omega) (fun _ _ => rfl) (Nat.le_of_ble_eq_true rfl) (Nat.le_of_ble_eq_true rfl) dX0_become_212 (fun H locs hP hD hS => ?_)
  generalize qf11 : va_cpy _ _ _ _ _ = f11 at hP hD
  have hP : va_P G vwCl [(h0, oX0 b c_lines c_span c_rule c_odds c_wide c_high c_creeks c_houses c_widows c_acts), (b 10, .inl (cI, 12, .inl f1)), (b 11, .inl (cI, 6, .inl f2)), (b 12, .inl (cI, 7, .inl f3)), (b 13, .inl (cI, 7, .inl f4)), (b 14, .inl (cI, 7, .inl f5)), (b 15, .inl (cI, 7, .inl f7)), (b 16, .inl (cI, 7, .inl f8)), (b 17, .inl (cI, 56, .inl f10)), (b 18, .inl (cI, 30, .inl f11)), (h1, oX0 bc c_lines c_span c_rule c_odds c_wide c_high c_creeks c_houses c_widows c_acts), (bc 10, .inl (cI, 12, .inl c_f10)), (bc 11, .inl (cI, 6, .inl c_f11)), (bc 12, .inl (cI, 7, .inl c_f12)), (bc 13, .inl (cI, 7, .inl c_f13)), (bc 14, .inl (cI, 7, .inl c_f14)), (bc 15, .inl (cI, 7, .inl c_f15)), (bc 16, .inl (cI, 7, .inl c_f16)), (bc 17, .inl (cI, 56, .inl c_f17)), (bc 18, .inl (cI, 30, .inl c_f18))] H := hP
  have hD : va_D A [(h0, oX0 b c_lines c_span c_rule c_odds c_wide c_high c_creeks c_houses c_widows c_acts), (b 10, .inl (cI, 12, .inl f1)), (b 11, .inl (cI, 6, .inl f2)), (b 12, .inl (cI, 7, .inl f3)), (b 13, .inl (cI, 7, .inl f4)), (b 14, .inl (cI, 7, .inl f5)), (b 15, .inl (cI, 7, .inl f7)), (b 16, .inl (cI, 7, .inl f8)), (b 17, .inl (cI, 56, .inl f10)), (b 18, .inl (cI, 30, .inl f11)), (h1, oX0 bc c_lines c_span c_rule c_odds c_wide c_high c_creeks c_houses c_widows c_acts), (bc 10, .inl (cI, 12, .inl c_f10)), (bc 11, .inl (cI, 6, .inl c_f11)), (bc 12, .inl (cI, 7, .inl c_f12)), (bc 13, .inl (cI, 7, .inl c_f13)), (bc 14, .inl (cI, 7, .inl c_f14)), (bc 15, .inl (cI, 7, .inl c_f15)), (bc 16, .inl (cI, 7, .inl c_f16)), (bc 17, .inl (cI, 56, .inl c_f17)), (bc 18, .inl (cI, 30, .inl c_f18))] := hD
  exact hret _ _ _ _ (c_lines, c_span, c_rule, c_odds, c_wide, c_high, c_creeks, c_houses, c_widows, c_acts, f1, f2, f3, f4, f5, f7, f8, f10, f11) hP hD hS dX0_become_215 (show 0 ≤ c_span.toInt ∧ c_span.toInt ≤ 12 ∧ 0 ≤ c_rule.toInt ∧ c_rule.toInt ≤ 3 ∧ 0 ≤ c_odds.toInt ∧ c_odds.toInt ≤ 10 ∧ 0 ≤ c_wide.toInt ∧ c_wide.toInt ≤ 8 ∧ 0 ≤ c_high.toInt ∧ c_high.toInt ≤ 8 ∧ 0 ≤ c_creeks.toInt ∧ c_creeks.toInt ≤ 12 ∧ 0 ≤ c_houses.toInt ∧ c_houses.toInt ≤ 6 ∧ 0 ≤ c_widows.toInt ∧ c_widows.toInt ≤ 7 ∧ 0 ≤ c_acts.toInt ∧ c_acts.toInt ≤ 30 ∧ ai f5 7 (-2147483648) 40 ∧ ai f8 7 (-2147483648) 8 from ⟨hl_c_span, hh_c_span, hl_c_rule, hh_c_rule, hl_c_odds, hh_c_odds, hl_c_wide, hh_c_wide, hl_c_high, hh_c_high, hl_c_creeks, hh_c_creeks, hl_c_houses, hh_c_houses, hl_c_widows, hh_c_widows, hl_c_acts, hh_c_acts, hi6, hi9⟩)
set_option maxHeartbeats 4000000 in
set_option maxRecDepth 100000 in
theorem f_X7_asNow (l : Launch) (G : va_G) (cI cJ cZ cB cQ : ClassId) (sz : Nat) (h0 : Nat) (h1 : Nat) (o_rule : Int32) (o_walkers : Int32) (o_creeks : Int64) (o_widow : Int32) (o_faces : Int32) (o_turn : Int32) (bc : Nat → Nat) (c_lines : Int32) (c_span : Int32) (c_rule : Int32) (c_odds : Int32) (c_wide : Int32) (c_high : Int32) (c_creeks : Int32) (c_houses : Int32) (c_widows : Int32) (c_acts : Int32) (c_f10 : Nat → Int32) (c_f18 : Nat → Int32) (hl_c_span : 0 ≤ c_span.toInt) (hh_c_span : c_span.toInt ≤ 12) (hl_c_rule : 0 ≤ c_rule.toInt) (hh_c_rule : c_rule.toInt ≤ 3) (hl_c_odds : 0 ≤ c_odds.toInt) (hh_c_odds : c_odds.toInt ≤ 10) (hl_c_wide : 0 ≤ c_wide.toInt) (hh_c_wide : c_wide.toInt ≤ 8) (hl_c_high : 0 ≤ c_high.toInt) (hh_c_high : c_high.toInt ≤ 8) (hl_c_creeks : 0 ≤ c_creeks.toInt) (hh_c_creeks : c_creeks.toInt ≤ 12) (hl_c_houses : 0 ≤ c_houses.toInt) (hh_c_houses : c_houses.toInt ≤ 6) (hl_c_widows : 0 ≤ c_widows.toInt) (hh_c_widows : c_widows.toInt ≤ 7) (hl_c_acts : 0 ≤ c_acts.toInt) (hh_c_acts : c_acts.toInt ≤ 30) : CV l yX7_asNow (wl_ yX7_asNow cX7_asNow 2 none) ({ frames := 2, cells := 0, slots := 0, locals := 43 } : Room) G (TY cI cJ cZ cB cQ) [.ref h0, .ref h1] [(h0, oX7 z0 o_rule o_walkers o_creeks o_widow o_faces o_turn), (h1, oX0 bc c_lines c_span c_rule c_odds c_wide c_high c_creeks c_houses c_widows c_acts), (bc 10, .inl (cI, 12, .inl c_f10)), (bc 18, .inl (cI, 30, .inl c_f18))] sz (fun (u : Int32 × Int32 × Int64 × Int32 × Int32 × Int32) => True) (fun u : Int32 × Int32 × Int64 × Int32 × Int32 × Int32 => [(h0, oX7 z0 u.1 u.2.1 u.2.2.1 u.2.2.2.1 u.2.2.2.2.1 u.2.2.2.2.2), (h1, oX0 bc c_lines c_span c_rule c_odds c_wide c_high c_creeks c_houses c_widows c_acts), (bc 10, .inl (cI, 12, .inl c_f10)), (bc 18, .inl (cI, 30, .inl c_f18))]) 0 0 := by
  refine CV.go (cc := cX7_asNow) (maxL := 2) (ret := none) (by decide) rfl (Nat.le_of_ble_eq_true rfl) ?_
  intro p e s m below meth c A ls Q hBd hret
  obtain ⟨hx, hb, hr, hml, hts, hown, hlk, hnm, hP, hK, hD, hA, hZ, hl⟩ := hBd
  have hown : s.vm.findClass RX7 = some m.cls := hown
  have hl : lv_has ls 2 [(0, .ref h0), (1, .ref h1)] := hl
  have hS : va_S A s.heap s.heap [] := va_S.rf
  refine lv_aload_n hx hb dX7_asNow_0 rfl (lv_at hl 0 rfl) ?_
  refine lv_aload_n hx hb dX7_asNow_1 rfl (lv_at hl 1 rfl) ?_
  refine va_getN (D := G) (ci := 0) (v := .int c_rule) (C := RX0) (T := TX0) (N := 19) hx hb hts iG_X0 hown hK hP 1 rfl rfl 2 (by decide) (nz_use hZ nw_63 rfl) (fun _ h9 => h9) rfl dX7_asNow_2 ?_
  refine va_put (D := G) (ci := 7) (v := .int c_rule) (ty := .int) (C := RX7) (T := TX7) (N := 6) hx hb hts iG_X7 tyX7 tyX7_ok nmX7 hown hK hP hD hS 0 rfl rfl 0 (by decide) (hts _ w_198) (fun _ h9 => h9) rfl (by decide +kernel) rfl rfl (Nat.le_of_ble_eq_true rfl) dX7_asNow_5 (fun H locs hP hD hS => ?_)
  have hP : va_P G vwCl [(h0, oX7 z0 c_rule o_walkers o_creeks o_widow o_faces o_turn), (h1, oX0 bc c_lines c_span c_rule c_odds c_wide c_high c_creeks c_houses c_widows c_acts), (bc 10, .inl (cI, 12, .inl c_f10)), (bc 18, .inl (cI, 30, .inl c_f18))] H := hP
  have hD : va_D A [(h0, oX7 z0 c_rule o_walkers o_creeks o_widow o_faces o_turn), (h1, oX0 bc c_lines c_span c_rule c_odds c_wide c_high c_creeks c_houses c_widows c_acts), (bc 10, .inl (cI, 12, .inl c_f10)), (bc 18, .inl (cI, 30, .inl c_f18))] := hD
  refine lv_aload_n hx hb dX7_asNow_8 rfl (lv_at hl 0 rfl) ?_
  refine lv_aload_n hx hb dX7_asNow_9 rfl (lv_at hl 1 rfl) ?_
  refine k_i (wc := [(h1, oX0 bc c_lines c_span c_rule c_odds c_wide c_high c_creeks c_houses c_widows c_acts), (bc 18, .inl (cI, 30, .inl c_f18))]) (wr := [(h0, oX7 z0 c_rule o_walkers o_creeks o_widow o_faces o_turn), (bc 10, .inl (cI, 12, .inl c_f10))]) hP hD hS hA [1, 3] [0, 2] rfl rfl rfl (by decide) (va_runVN (As := []) (rest := [.ref h0]) ⟨hx, hb, hml, hown, hts⟩ (f_X0_walkerBits l G cI cJ cZ cB cQ _ h1 bc c_lines c_span c_rule c_odds c_wide c_high c_creeks c_houses c_widows c_acts c_f18 hl_c_span hh_c_span hl_c_rule hh_c_rule hl_c_odds hh_c_odds hl_c_wide hh_c_wide hl_c_high hh_c_high hl_c_creeks hh_c_creeks hl_c_houses hh_c_houses hl_c_widows hh_c_widows hl_c_acts hh_c_acts) ⟨va_cnB (host := "WidowRoads") 0 hts (gW w_580) rfl rfl rfl (nz_nw hZ nw_577 rfl) (hts _ w_4) hd_X0_walkerBits ⟨Nat.le_of_ble_eq_true rfl, Nat.le_of_ble_eq_true rfl⟩, (hts _ w_579), (hts _ wp_23)⟩ (mV hK hZ hP hD [1, 3] rfl rfl [] 1 0 rfl rfl) rfl rfl hl.1 rfl (lv_room (Nat.le_of_ble_eq_true rfl)) dX7_asNow_10 ⟨Nat.le_of_ble_eq_true rfl, Nat.le_of_ble_eq_true rfl⟩) (fun r1 u2 H locs hw3 hP hD hS => ?_)
  try dsimp only at hw3
  have hP : va_P G vwCl [(h0, oX7 z0 c_rule o_walkers o_creeks o_widow o_faces o_turn), (bc 10, .inl (cI, 12, .inl c_f10)), (h1, oX0 bc c_lines c_span c_rule c_odds c_wide c_high c_creeks c_houses c_widows c_acts), (bc 18, .inl (cI, 30, .inl c_f18))] H := hP
  have hD : va_D A [(h0, oX7 z0 c_rule o_walkers o_creeks o_widow o_faces o_turn), (bc 10, .inl (cI, 12, .inl c_f10)), (h1, oX0 bc c_lines c_span c_rule c_odds c_wide c_high c_creeks c_houses c_widows c_acts), (bc 18, .inl (cI, 30, .inl c_f18))] := hD
  refine va_put (D := G) (ci := 7) (v := .int r1) (ty := .int) (C := RX7) (T := TX7) (N := 6) hx hb hts iG_X7 tyX7 tyX7_ok nmX7 hown hK hP hD hS 0 rfl rfl 1 (by decide) (hts _ w_201) (fun _ h9 => h9) rfl (by decide +kernel) rfl rfl (Nat.le_of_ble_eq_true rfl) dX7_asNow_13 (fun H locs hP hD hS => ?_)
  have hP : va_P G vwCl [(h0, oX7 z0 c_rule r1 o_creeks o_widow o_faces o_turn), (bc 10, .inl (cI, 12, .inl c_f10)), (h1, oX0 bc c_lines c_span c_rule c_odds c_wide c_high c_creeks c_houses c_widows c_acts), (bc 18, .inl (cI, 30, .inl c_f18))] H := hP
  have hD : va_D A [(h0, oX7 z0 c_rule r1 o_creeks o_widow o_faces o_turn), (bc 10, .inl (cI, 12, .inl c_f10)), (h1, oX0 bc c_lines c_span c_rule c_odds c_wide c_high c_creeks c_houses c_widows c_acts), (bc 18, .inl (cI, 30, .inl c_f18))] := hD
  refine lv_aload_n hx hb dX7_asNow_16 rfl (lv_at hl 0 rfl) ?_
  refine lv_aload_n hx hb dX7_asNow_17 rfl (lv_at hl 1 rfl) ?_
  refine k_l (wc := [(h1, oX0 bc c_lines c_span c_rule c_odds c_wide c_high c_creeks c_houses c_widows c_acts), (bc 10, .inl (cI, 12, .inl c_f10)), (bc 18, .inl (cI, 30, .inl c_f18))]) (wr := [(h0, oX7 z0 c_rule r1 o_creeks o_widow o_faces o_turn)]) hP hD hS hA [2, 1, 3] [0] rfl rfl rfl (by decide) (va_runVN (As := []) (rest := [.ref h0]) ⟨hx, hb, hml, hown, hts⟩ (f_X0_creekBits l G cI cJ cZ cB cQ _ h1 bc c_lines c_span c_rule c_odds c_wide c_high c_creeks c_houses c_widows c_acts c_f10 c_f18 hl_c_span hh_c_span hl_c_rule hh_c_rule hl_c_odds hh_c_odds hl_c_wide hh_c_wide hl_c_high hh_c_high hl_c_creeks hh_c_creeks hl_c_houses hh_c_houses hl_c_widows hh_c_widows hl_c_acts hh_c_acts) ⟨va_cnB (host := "WidowRoads") 0 hts (gW w_516) rfl rfl rfl (nz_nw hZ nw_581 rfl) (hts _ w_4) hd_X0_creekBits ⟨Nat.le_of_ble_eq_true rfl, Nat.le_of_ble_eq_true rfl⟩, (hts _ w_515), (hts _ wp_12)⟩ (mV hK hZ hP hD [2, 1, 3] rfl rfl [] 2 0 rfl rfl) rfl rfl hl.1 rfl (lv_room (Nat.le_of_ble_eq_true rfl)) dX7_asNow_18 ⟨Nat.le_of_ble_eq_true rfl, Nat.le_of_ble_eq_true rfl⟩) (fun r4 u5 H locs hw6 hP hD hS => ?_)
  try dsimp only at hw6
  have hP : va_P G vwCl [(h0, oX7 z0 c_rule r1 o_creeks o_widow o_faces o_turn), (h1, oX0 bc c_lines c_span c_rule c_odds c_wide c_high c_creeks c_houses c_widows c_acts), (bc 10, .inl (cI, 12, .inl c_f10)), (bc 18, .inl (cI, 30, .inl c_f18))] H := hP
  have hD : va_D A [(h0, oX7 z0 c_rule r1 o_creeks o_widow o_faces o_turn), (h1, oX0 bc c_lines c_span c_rule c_odds c_wide c_high c_creeks c_houses c_widows c_acts), (bc 10, .inl (cI, 12, .inl c_f10)), (bc 18, .inl (cI, 30, .inl c_f18))] := hD
  refine va_put (D := G) (ci := 7) (v := .long r4) (ty := .long) (C := RX7) (T := TX7) (N := 6) hx hb hts iG_X7 tyX7 tyX7_ok nmX7 hown hK hP hD hS 0 rfl rfl 2 (by decide) (hts _ w_205) (fun _ h9 => h9) rfl (by decide +kernel) rfl rfl (Nat.le_of_ble_eq_true rfl) dX7_asNow_21 (fun H locs hP hD hS => ?_)
  have hP : va_P G vwCl [(h0, oX7 z0 c_rule r1 r4 o_widow o_faces o_turn), (h1, oX0 bc c_lines c_span c_rule c_odds c_wide c_high c_creeks c_houses c_widows c_acts), (bc 10, .inl (cI, 12, .inl c_f10)), (bc 18, .inl (cI, 30, .inl c_f18))] H := hP
  have hD : va_D A [(h0, oX7 z0 c_rule r1 r4 o_widow o_faces o_turn), (h1, oX0 bc c_lines c_span c_rule c_odds c_wide c_high c_creeks c_houses c_widows c_acts), (bc 10, .inl (cI, 12, .inl c_f10)), (bc 18, .inl (cI, 30, .inl c_f18))] := hD
  refine lv_aload_n hx hb dX7_asNow_24 rfl (lv_at hl 0 rfl) ?_
  refine lv_iconst (v := (-1)) hx hb dX7_asNow_25 (by decide) ?_
  refine va_put (D := G) (ci := 7) (v := .int (-1)) (ty := .int) (C := RX7) (T := TX7) (N := 6) hx hb hts iG_X7 tyX7 tyX7_ok nmX7 hown hK hP hD hS 0 rfl rfl 3 (by decide) (hts _ w_208) (fun _ h9 => h9) rfl (by decide +kernel) rfl rfl (Nat.le_of_ble_eq_true rfl) dX7_asNow_26 (fun H locs hP hD hS => ?_)
  have hP : va_P G vwCl [(h0, oX7 z0 c_rule r1 r4 (-1) o_faces o_turn), (h1, oX0 bc c_lines c_span c_rule c_odds c_wide c_high c_creeks c_houses c_widows c_acts), (bc 10, .inl (cI, 12, .inl c_f10)), (bc 18, .inl (cI, 30, .inl c_f18))] H := hP
  have hD : va_D A [(h0, oX7 z0 c_rule r1 r4 (-1) o_faces o_turn), (h1, oX0 bc c_lines c_span c_rule c_odds c_wide c_high c_creeks c_houses c_widows c_acts), (bc 10, .inl (cI, 12, .inl c_f10)), (bc 18, .inl (cI, 30, .inl c_f18))] := hD
  refine lv_aload_n hx hb dX7_asNow_29 rfl (lv_at hl 0 rfl) ?_
  refine lv_iconst (v := (-1)) hx hb dX7_asNow_30 (by decide) ?_
  refine va_put (D := G) (ci := 7) (v := .int (-1)) (ty := .int) (C := RX7) (T := TX7) (N := 6) hx hb hts iG_X7 tyX7 tyX7_ok nmX7 hown hK hP hD hS 0 rfl rfl 4 (by decide) (hts _ w_210) (fun _ h9 => h9) rfl (by decide +kernel) rfl rfl (Nat.le_of_ble_eq_true rfl) dX7_asNow_31 (fun H locs hP hD hS => ?_)
  have hP : va_P G vwCl [(h0, oX7 z0 c_rule r1 r4 (-1) (-1) o_turn), (h1, oX0 bc c_lines c_span c_rule c_odds c_wide c_high c_creeks c_houses c_widows c_acts), (bc 10, .inl (cI, 12, .inl c_f10)), (bc 18, .inl (cI, 30, .inl c_f18))] H := hP
  have hD : va_D A [(h0, oX7 z0 c_rule r1 r4 (-1) (-1) o_turn), (h1, oX0 bc c_lines c_span c_rule c_odds c_wide c_high c_creeks c_houses c_widows c_acts), (bc 10, .inl (cI, 12, .inl c_f10)), (bc 18, .inl (cI, 30, .inl c_f18))] := hD
  refine lv_aload_n hx hb dX7_asNow_34 rfl (lv_at hl 0 rfl) ?_
  refine lv_iconst (v := (-1)) hx hb dX7_asNow_35 (by decide) ?_
  refine va_put (D := G) (ci := 7) (v := .int (-1)) (ty := .int) (C := RX7) (T := TX7) (N := 6) hx hb hts iG_X7 tyX7 tyX7_ok nmX7 hown hK hP hD hS 0 rfl rfl 5 (by decide) (hts _ w_212) (fun _ h9 => h9) rfl (by decide +kernel) rfl rfl (Nat.le_of_ble_eq_true rfl) dX7_asNow_36 (fun H locs hP hD hS => ?_)
  have hP : va_P G vwCl [(h0, oX7 z0 c_rule r1 r4 (-1) (-1) (-1)), (h1, oX0 bc c_lines c_span c_rule c_odds c_wide c_high c_creeks c_houses c_widows c_acts), (bc 10, .inl (cI, 12, .inl c_f10)), (bc 18, .inl (cI, 30, .inl c_f18))] H := hP
  have hD : va_D A [(h0, oX7 z0 c_rule r1 r4 (-1) (-1) (-1)), (h1, oX0 bc c_lines c_span c_rule c_odds c_wide c_high c_creeks c_houses c_widows c_acts), (bc 10, .inl (cI, 12, .inl c_f10)), (bc 18, .inl (cI, 30, .inl c_f18))] := hD
  exact hret _ _ _ _ (c_rule, r1, r4, (-1), (-1), (-1)) hP hD hS dX7_asNow_39 trivial
set_option maxHeartbeats 4000000 in
set_option maxRecDepth 100000 in
theorem f_X7_facesAtFirst (l : Launch) (G : va_G) (cI cJ cZ cB cQ : ClassId) (sz : Nat) (h0 : Nat) (h1 : Nat) (p0 : Int32) (o_rule : Int32) (o_walkers : Int32) (o_creeks : Int64) (o_widow : Int32) (o_faces : Int32) (o_turn : Int32) (bc : Nat → Nat) (c_lines : Int32) (c_span : Int32) (c_rule : Int32) (c_odds : Int32) (c_wide : Int32) (c_high : Int32) (c_creeks : Int32) (c_houses : Int32) (c_widows : Int32) (c_acts : Int32) (c_f13 : Nat → Int32) (qp0_l : 0 ≤ p0.toInt) (qp0_h : p0.toInt ≤ 6) (hl_c_span : 0 ≤ c_span.toInt) (hh_c_span : c_span.toInt ≤ 12) (hl_c_rule : 0 ≤ c_rule.toInt) (hh_c_rule : c_rule.toInt ≤ 3) (hl_c_odds : 0 ≤ c_odds.toInt) (hh_c_odds : c_odds.toInt ≤ 10) (hl_c_wide : 0 ≤ c_wide.toInt) (hh_c_wide : c_wide.toInt ≤ 8) (hl_c_high : 0 ≤ c_high.toInt) (hh_c_high : c_high.toInt ≤ 8) (hl_c_creeks : 0 ≤ c_creeks.toInt) (hh_c_creeks : c_creeks.toInt ≤ 12) (hl_c_houses : 0 ≤ c_houses.toInt) (hh_c_houses : c_houses.toInt ≤ 6) (hl_c_widows : 0 ≤ c_widows.toInt) (hh_c_widows : c_widows.toInt ≤ 7) (hl_c_acts : 0 ≤ c_acts.toInt) (hh_c_acts : c_acts.toInt ≤ 30) : CI l yX7_facesAtFirst (wl_ yX7_facesAtFirst cX7_facesAtFirst 3 (some .int)) ({ frames := 0, cells := 0, slots := 0, locals := 0 } : Room) G (TY cI cJ cZ cB cQ) [.ref h0, .ref h1, .int p0] [(h0, oX7 z0 o_rule o_walkers o_creeks o_widow o_faces o_turn), (h1, oX0 bc c_lines c_span c_rule c_odds c_wide c_high c_creeks c_houses c_widows c_acts), (bc 13, .inl (cI, 7, .inl c_f13))] sz (fun (r : Int32) (u : Unit) => True) (fun _ : Unit => [(h0, oX7 z0 o_rule o_walkers o_creeks o_widow o_faces o_turn), (h1, oX0 bc c_lines c_span c_rule c_odds c_wide c_high c_creeks c_houses c_widows c_acts), (bc 13, .inl (cI, 7, .inl c_f13))]) 0 0 := by
  refine CI.go (cc := cX7_facesAtFirst) (maxL := 3) (ret := (some .int)) (by decide) rfl (Nat.le_of_ble_eq_true rfl) ?_
  intro p e s m below meth c A ls Q hBd hret
  obtain ⟨hx, hb, hr, hml, hts, hown, hlk, hnm, hP, hK, hD, hA, hZ, hl⟩ := hBd
  have hown : s.vm.findClass RX7 = some m.cls := hown
  have hl : lv_has ls 3 [(0, .ref h0), (1, .ref h1), (2, .int p0)] := hl
  have hS : va_S A s.heap s.heap [] := va_S.rf
  refine lv_iload_n hx hb dX7_facesAtFirst_0 rfl (lv_at hl 2 rfl) ?_
  refine lv_aload_n hx hb dX7_facesAtFirst_1 rfl (lv_at hl 0 rfl) ?_
  refine va_get (D := G) (ci := 7) (v := .int o_widow) (C := RX7) (T := TX7) (N := 6) hx hb hts iG_X7 hown hK hP 0 rfl rfl 3 (by decide) (hts _ w_208) (fun _ h9 => h9) rfl dX7_facesAtFirst_2 ?_
  refine lv_icmp_ne (tgt := 23) hx hb dX7_facesAtFirst_5 (by decide) (fun c1 => ?_) (fun c1 => ?_)
  · have c1 := i_ne rfl rfl c1
    refine lv_aload_n hx hb dX7_facesAtFirst_23 rfl (lv_at hl 1 rfl) ?_
    refine va_getN (D := G) (ci := 0) (v := .ref (bc 13)) (C := RX0) (T := TX0) (N := 19) hx hb hts iG_X0 hown hK hP 1 rfl rfl 13 (by decide) (nz_use hZ nw_102 rfl) (fun _ h9 => h9) rfl dX7_facesAtFirst_24 ?_
    refine lv_iload_n hx hb dX7_facesAtFirst_27 rfl (lv_at hl 2 rfl) ?_
    refine va_iald hx hb hK hP 2 0 rfl rfl (ix_in rfl (by omega) (by omega)) dX7_facesAtFirst_28 ?_
    refine lv_topi (fun v2 ev2 => ?_)
    exact hret _ _ _ _ v2 () hP hD hS dX7_facesAtFirst_29 trivial
  · have c1 := i_eq rfl rfl c1
    refine lv_aload_n hx hb dX7_facesAtFirst_8 rfl (lv_at hl 0 rfl) ?_
    refine va_get (D := G) (ci := 7) (v := .int o_faces) (C := RX7) (T := TX7) (N := 6) hx hb hts iG_X7 hown hK hP 0 rfl rfl 4 (by decide) (hts _ w_210) (fun _ h9 => h9) rfl dX7_facesAtFirst_9 ?_
    refine lv_iconst (v := (-1)) hx hb dX7_facesAtFirst_12 (by decide) ?_
    refine lv_icmp_eq (tgt := 23) hx hb dX7_facesAtFirst_13 (by decide) (fun c3 => ?_) (fun c3 => ?_)
    · have c3 := i_eq rfl ki_m1 c3
      refine lv_aload_n hx hb dX7_facesAtFirst_23 rfl (lv_at hl 1 rfl) ?_
      refine va_getN (D := G) (ci := 0) (v := .ref (bc 13)) (C := RX0) (T := TX0) (N := 19) hx hb hts iG_X0 hown hK hP 1 rfl rfl 13 (by decide) (nz_use hZ nw_102 rfl) (fun _ h9 => h9) rfl dX7_facesAtFirst_24 ?_
      refine lv_iload_n hx hb dX7_facesAtFirst_27 rfl (lv_at hl 2 rfl) ?_
      refine va_iald hx hb hK hP 2 0 rfl rfl (ix_in rfl (by omega) (by omega)) dX7_facesAtFirst_28 ?_
      refine lv_topi (fun v4 ev4 => ?_)
      exact hret _ _ _ _ v4 () hP hD hS dX7_facesAtFirst_29 trivial
    · have c3 := i_ne rfl ki_m1 c3
      refine lv_aload_n hx hb dX7_facesAtFirst_16 rfl (lv_at hl 0 rfl) ?_
      refine va_get (D := G) (ci := 7) (v := .int o_faces) (C := RX7) (T := TX7) (N := 6) hx hb hts iG_X7 hown hK hP 0 rfl rfl 4 (by decide) (hts _ w_210) (fun _ h9 => h9) rfl dX7_facesAtFirst_17 ?_
      refine lv_goto (tgt := 29) hx hb dX7_facesAtFirst_20 (by decide) ?_
      exact hret _ _ _ _ o_faces () hP hD hS dX7_facesAtFirst_29 trivial
set_option maxHeartbeats 4000000 in
set_option maxRecDepth 100000 in
theorem f_X7_turnOf (l : Launch) (G : va_G) (cI cJ cZ cB cQ : ClassId) (sz : Nat) (h0 : Nat) (h1 : Nat) (p0 : Int32) (p1 : Int32) (o_rule : Int32) (o_walkers : Int32) (o_creeks : Int64) (o_widow : Int32) (o_faces : Int32) (o_turn : Int32) (bc : Nat → Nat) (c_lines : Int32) (c_span : Int32) (c_rule : Int32) (c_odds : Int32) (c_wide : Int32) (c_high : Int32) (c_creeks : Int32) (c_houses : Int32) (c_widows : Int32) (c_acts : Int32) (c_f16 : Nat → Int32) (c_f17 : Nat → Int32) (qp0_l : 0 ≤ p0.toInt) (qp0_h : p0.toInt ≤ 6) (qp1_l : 0 ≤ p1.toInt) (hl_c_span : 0 ≤ c_span.toInt) (hh_c_span : c_span.toInt ≤ 12) (hl_c_rule : 0 ≤ c_rule.toInt) (hh_c_rule : c_rule.toInt ≤ 3) (hl_c_odds : 0 ≤ c_odds.toInt) (hh_c_odds : c_odds.toInt ≤ 10) (hl_c_wide : 0 ≤ c_wide.toInt) (hh_c_wide : c_wide.toInt ≤ 8) (hl_c_high : 0 ≤ c_high.toInt) (hh_c_high : c_high.toInt ≤ 8) (hl_c_creeks : 0 ≤ c_creeks.toInt) (hh_c_creeks : c_creeks.toInt ≤ 12) (hl_c_houses : 0 ≤ c_houses.toInt) (hh_c_houses : c_houses.toInt ≤ 6) (hl_c_widows : 0 ≤ c_widows.toInt) (hh_c_widows : c_widows.toInt ≤ 7) (hl_c_acts : 0 ≤ c_acts.toInt) (hh_c_acts : c_acts.toInt ≤ 30) (ha_c_f16 : ai c_f16 7 (-2147483648) 8) : CI l yX7_turnOf (wl_ yX7_turnOf cX7_turnOf 5 (some .int)) ({ frames := 0, cells := 0, slots := 0, locals := 0 } : Room) G (TY cI cJ cZ cB cQ) [.ref h0, .ref h1, .int p0, .int p1] [(h0, oX7 z0 o_rule o_walkers o_creeks o_widow o_faces o_turn), (h1, oX0 bc c_lines c_span c_rule c_odds c_wide c_high c_creeks c_houses c_widows c_acts), (bc 16, .inl (cI, 7, .inl c_f16)), (bc 17, .inl (cI, 56, .inl c_f17))] sz (fun (r : Int32) (u : Unit) => True) (fun _ : Unit => [(h0, oX7 z0 o_rule o_walkers o_creeks o_widow o_faces o_turn), (h1, oX0 bc c_lines c_span c_rule c_odds c_wide c_high c_creeks c_houses c_widows c_acts), (bc 16, .inl (cI, 7, .inl c_f16)), (bc 17, .inl (cI, 56, .inl c_f17))]) 0 0 := by
  refine CI.go (cc := cX7_turnOf) (maxL := 5) (ret := (some .int)) (by decide) rfl (Nat.le_of_ble_eq_true rfl) ?_
  intro p e s m below meth c A ls Q hBd hret
  obtain ⟨hx, hb, hr, hml, hts, hown, hlk, hnm, hP, hK, hD, hA, hZ, hl⟩ := hBd
  have hown : s.vm.findClass RX7 = some m.cls := hown
  have hl : lv_has ls 5 [(0, .ref h0), (1, .ref h1), (2, .int p0), (3, .int p1)] := hl
  have hS : va_S A s.heap s.heap [] := va_S.rf
  refine lv_iload_n hx hb dX7_turnOf_0 rfl (lv_at hl 2 rfl) ?_
  refine lv_aload_n hx hb dX7_turnOf_1 rfl (lv_at hl 0 rfl) ?_
  refine va_get (D := G) (ci := 7) (v := .int o_widow) (C := RX7) (T := TX7) (N := 6) hx hb hts iG_X7 hown hK hP 0 rfl rfl 3 (by decide) (hts _ w_208) (fun _ h9 => h9) rfl dX7_turnOf_2 ?_
  refine lv_icmp_ne (tgt := 21) hx hb dX7_turnOf_5 (by decide) (fun c1 => ?_) (fun c1 => ?_)
  · have c1 := i_ne rfl rfl c1
    refine lv_aload_n hx hb dX7_turnOf_21 rfl (lv_at hl 1 rfl) ?_
    refine va_getN (D := G) (ci := 0) (v := .ref (bc 16)) (C := RX0) (T := TX0) (N := 19) hx hb hts iG_X0 hown hK hP 1 rfl rfl 16 (by decide) (nz_use hZ nw_114 rfl) (fun _ h9 => h9) rfl dX7_turnOf_22 ?_
    refine lv_iload_n hx hb dX7_turnOf_25 rfl (lv_at hl 2 rfl) ?_
    refine va_iald hx hb hK hP 2 0 rfl rfl (ix_in rfl (by omega) (by omega)) dX7_turnOf_26 ?_
    refine lv_topi (fun v2 ev2 => ?_)
    obtain ⟨ia3, ib4⟩ := ai_get ha_c_f16 rfl (by omega) (by omega) ev2
    refine lv_istore (lv' := [(4, .int v2), (0, .ref h0), (1, .ref h1), (2, .int p0), (3, .int p1)]) hx hb dX7_turnOf_27 hl (by decide) rfl (fun ls hl => ?_)
    refine lv_iload hx hb dX7_turnOf_29 (lv_at hl 0 rfl) ?_
    refine lv_if_le (tgt := 51) hx hb dX7_turnOf_31 (by decide) (fun c5 => ?_) (fun c5 => ?_)
    · have c5 := i_le rfl ki_0 c5
      refine lv_iconst (v := 0) hx hb dX7_turnOf_51 (by decide) ?_
      exact hret _ _ _ _ 0 () hP hD hS dX7_turnOf_52 trivial
    · have c5 := i_nle rfl ki_0 c5
      refine lv_aload_n hx hb dX7_turnOf_34 rfl (lv_at hl 2 rfl) ?_
      refine va_getN (D := G) (ci := 0) (v := .ref (bc 17)) (C := RX0) (T := TX0) (N := 19) hx hb hts iG_X0 hown hK hP 1 rfl rfl 17 (by decide) (nz_use hZ nw_118 rfl) (fun _ h9 => h9) rfl dX7_turnOf_35 ?_
      refine lv_iload_n hx hb dX7_turnOf_38 rfl (lv_at hl 3 rfl) ?_
      refine lv_bipush (v := 8) hx hb dX7_turnOf_39 (by decide) ?_
      refine lv_imul hx hb dX7_turnOf_41 ?_
      refine lv_topi (fun v6 ev6 => ?_)
      have tv6 : v6.toInt = p0.toInt * 8 := ti_mul rfl ki_8 ev6 (by omega) (by omega)
      refine lv_iload_n hx hb dX7_turnOf_42 rfl (lv_at hl 4 rfl) ?_
      refine lv_iload hx hb dX7_turnOf_43 (lv_at hl 0 rfl) ?_
      refine lv_irem hx hb dX7_turnOf_45 (ne0 rfl (by omega)) ?_
      refine lv_topi (fun v7 ev7 => ?_)
      obtain ⟨sa8, sb9⟩ : 0 ≤ v7.toInt ∧ v7.toInt < v2.toInt := rem_v rfl rfl (by omega) (by omega) ev7
      refine lv_iadd hx hb dX7_turnOf_46 ?_
      refine lv_topi (fun v10 ev10 => ?_)
      have tv10 : v10.toInt = p0.toInt * 8 + v7.toInt := ti_add tv6 rfl ev10 (by omega) (by omega)
      refine va_iald hx hb hK hP 3 0 rfl rfl (ix_in tv10 (by omega) (by omega)) dX7_turnOf_47 ?_
      refine lv_topi (fun v11 ev11 => ?_)
      refine lv_goto (tgt := 52) hx hb dX7_turnOf_48 (by decide) ?_
      exact hret _ _ _ _ v11 () hP hD hS dX7_turnOf_52 trivial
  · have c1 := i_eq rfl rfl c1
    refine lv_aload_n hx hb dX7_turnOf_8 rfl (lv_at hl 0 rfl) ?_
    refine va_get (D := G) (ci := 7) (v := .int o_turn) (C := RX7) (T := TX7) (N := 6) hx hb hts iG_X7 hown hK hP 0 rfl rfl 5 (by decide) (hts _ w_212) (fun _ h9 => h9) rfl dX7_turnOf_9 ?_
    refine lv_iconst (v := (-1)) hx hb dX7_turnOf_12 (by decide) ?_
    refine lv_icmp_eq (tgt := 21) hx hb dX7_turnOf_13 (by decide) (fun c12 => ?_) (fun c12 => ?_)
    · have c12 := i_eq rfl ki_m1 c12
      refine lv_aload_n hx hb dX7_turnOf_21 rfl (lv_at hl 1 rfl) ?_
      refine va_getN (D := G) (ci := 0) (v := .ref (bc 16)) (C := RX0) (T := TX0) (N := 19) hx hb hts iG_X0 hown hK hP 1 rfl rfl 16 (by decide) (nz_use hZ nw_114 rfl) (fun _ h9 => h9) rfl dX7_turnOf_22 ?_
      refine lv_iload_n hx hb dX7_turnOf_25 rfl (lv_at hl 2 rfl) ?_
      refine va_iald hx hb hK hP 2 0 rfl rfl (ix_in rfl (by omega) (by omega)) dX7_turnOf_26 ?_
      refine lv_topi (fun v13 ev13 => ?_)
      obtain ⟨ia14, ib15⟩ := ai_get ha_c_f16 rfl (by omega) (by omega) ev13
      refine lv_istore (lv' := [(4, .int v13), (0, .ref h0), (1, .ref h1), (2, .int p0), (3, .int p1)]) hx hb dX7_turnOf_27 hl (by decide) rfl (fun ls hl => ?_)
      refine lv_iload hx hb dX7_turnOf_29 (lv_at hl 0 rfl) ?_
      refine lv_if_le (tgt := 51) hx hb dX7_turnOf_31 (by decide) (fun c16 => ?_) (fun c16 => ?_)
      · have c16 := i_le rfl ki_0 c16
        refine lv_iconst (v := 0) hx hb dX7_turnOf_51 (by decide) ?_
        exact hret _ _ _ _ 0 () hP hD hS dX7_turnOf_52 trivial
      · have c16 := i_nle rfl ki_0 c16
        refine lv_aload_n hx hb dX7_turnOf_34 rfl (lv_at hl 2 rfl) ?_
        refine va_getN (D := G) (ci := 0) (v := .ref (bc 17)) (C := RX0) (T := TX0) (N := 19) hx hb hts iG_X0 hown hK hP 1 rfl rfl 17 (by decide) (nz_use hZ nw_118 rfl) (fun _ h9 => h9) rfl dX7_turnOf_35 ?_
        refine lv_iload_n hx hb dX7_turnOf_38 rfl (lv_at hl 3 rfl) ?_
        refine lv_bipush (v := 8) hx hb dX7_turnOf_39 (by decide) ?_
        refine lv_imul hx hb dX7_turnOf_41 ?_
        refine lv_topi (fun v17 ev17 => ?_)
        have tv17 : v17.toInt = p0.toInt * 8 := ti_mul rfl ki_8 ev17 (by omega) (by omega)
        refine lv_iload_n hx hb dX7_turnOf_42 rfl (lv_at hl 4 rfl) ?_
        refine lv_iload hx hb dX7_turnOf_43 (lv_at hl 0 rfl) ?_
        refine lv_irem hx hb dX7_turnOf_45 (ne0 rfl (by omega)) ?_
        refine lv_topi (fun v18 ev18 => ?_)
        obtain ⟨sa19, sb20⟩ : 0 ≤ v18.toInt ∧ v18.toInt < v13.toInt := rem_v rfl rfl (by omega) (by omega) ev18
        refine lv_iadd hx hb dX7_turnOf_46 ?_
        refine lv_topi (fun v21 ev21 => ?_)
        have tv21 : v21.toInt = p0.toInt * 8 + v18.toInt := ti_add tv17 rfl ev21 (by omega) (by omega)
        refine va_iald hx hb hK hP 3 0 rfl rfl (ix_in tv21 (by omega) (by omega)) dX7_turnOf_47 ?_
        refine lv_topi (fun v22 ev22 => ?_)
        refine lv_goto (tgt := 52) hx hb dX7_turnOf_48 (by decide) ?_
        exact hret _ _ _ _ v22 () hP hD hS dX7_turnOf_52 trivial
    · have c12 := i_ne rfl ki_m1 c12
      refine lv_aload_n hx hb dX7_turnOf_16 rfl (lv_at hl 0 rfl) ?_
      refine va_get (D := G) (ci := 7) (v := .int o_turn) (C := RX7) (T := TX7) (N := 6) hx hb hts iG_X7 hown hK hP 0 rfl rfl 5 (by decide) (hts _ w_212) (fun _ h9 => h9) rfl dX7_turnOf_17 ?_
      exact hret _ _ _ _ o_turn () hP hD hS dX7_turnOf_20 trivial
