theorem w_1194 : Jvm.Cond.fieldLink "WidowRoadsModel" (13 : Nat) "WidowRoadsModel" "images" "[I" ∈ GW := GW_t 1194 (by decide +kernel) rfl
theorem w_1195 : Jvm.Cond.fieldLink "WidowRoadsModel" (16 : Nat) "WidowRoadsModel" "hasImage" "[Z" ∈ GW := GW_t 1195 (by decide +kernel) rfl
theorem w_1235 : Jvm.Cond.fieldLink "WidowRoadsModel" (91 : Nat) "WidowRoadsModel" "width" "[I" ∈ GW := GW_t 1235 (by decide +kernel) rfl
theorem w_1237 : Jvm.Cond.fieldLink "WidowRoadsModel" (98 : Nat) "WidowRoadsModel" "moving" "[J" ∈ GW := GW_t 1237 (by decide +kernel) rfl
theorem w_1335 : Jvm.Cond.constantLong "WidowRoadsModel" (104 : Nat) (2 : Int64) ∈ GW := GW_t 1335 (by decide +kernel) rfl
theorem w_1982 : Jvm.Cond.methodLink "WidowRoadsModel" (525 : Nat) ({ cls := "WidowRoadsModel", name := "clipped", desc := "(JI)J" } : Jvm.MethodName) ∈ GW := GW_t 1982 (by decide +kernel) rfl
theorem w_1983 : Jvm.Cond.static ({ cls := "WidowRoadsModel", name := "clipped", desc := "(JI)J" } : Jvm.MethodName) ∈ GW := GW_t 1983 (by decide +kernel) rfl
theorem w_1984 : Jvm.Cond.code ({ cls := "WidowRoadsModel", name := "clipped", desc := "(JI)J" } : Jvm.MethodName) prog_12_method_156_code (4 : Nat) (Option.some Jvm.ClassFile.FieldType.long) ∈ GW := GW_t 1984 (by decide +kernel) rfl
theorem hd_X10_clipped : yX10_clipped.cls ≠ "java/lang/invoke/MethodHandle" ∧ yX10_clipped.cls ≠ "java/lang/invoke/VarHandle" ∧ (parseMethodDescriptor yX10_clipped.desc).map (fun d => d.parameters.length) = some 2 := by decide +kernel
theorem kl_2 : (2 : Int64).toInt = 2 := by decide
theorem dX10_back_0 : decode cX10_back 0 = .ok (.iload_n 1, 1) := by decide +kernel
theorem dX10_back_1 : decode cX10_back 1 = .ok (.i2l, 1) := by decide +kernel
theorem dX10_back_2 : decode cX10_back 2 = .ok (.lconst 0, 1) := by decide +kernel
theorem dX10_back_3 : decode cX10_back 3 = .ok (.ldc2_w 104, 3) := by decide +kernel
theorem dX10_back_6 : decode cX10_back 6 = .ok (.invokestatic 106, 3) := by decide +kernel
theorem dX10_back_9 : decode cX10_back 9 = .ok (.ifCond .ne 6, 3) := by decide +kernel
theorem dX10_back_12 : decode cX10_back 12 = .ok (.bipush (-2), 2) := by decide +kernel
theorem dX10_back_14 : decode cX10_back 14 = .ok (.ireturn, 1) := by decide +kernel
theorem dX10_back_15 : decode cX10_back 15 = .ok (.aload_n 0, 1) := by decide +kernel
theorem dX10_back_16 : decode cX10_back 16 = .ok (.getfield 16, 3) := by decide +kernel
theorem dX10_back_19 : decode cX10_back 19 = .ok (.iload_n 1, 1) := by decide +kernel
theorem dX10_back_20 : decode cX10_back 20 = .ok (.baload, 1) := by decide +kernel
theorem dX10_back_21 : decode cX10_back 21 = .ok (.ifCond .ne 6, 3) := by decide +kernel
theorem dX10_back_24 : decode cX10_back 24 = .ok (.bipush (-6), 2) := by decide +kernel
theorem dX10_back_26 : decode cX10_back 26 = .ok (.ireturn, 1) := by decide +kernel
theorem dX10_back_27 : decode cX10_back 27 = .ok (.iconst 0, 1) := by decide +kernel
theorem dX10_back_28 : decode cX10_back 28 = .ok (.istore_n 2, 1) := by decide +kernel
theorem dX10_back_29 : decode cX10_back 29 = .ok (.iload_n 2, 1) := by decide +kernel
theorem dX10_back_30 : decode cX10_back 30 = .ok (.sipush 149, 3) := by decide +kernel
theorem dX10_back_33 : decode cX10_back 33 = .ok (.if_icmp .ge 27, 3) := by decide +kernel
theorem dX10_back_36 : decode cX10_back 36 = .ok (.aload_n 0, 1) := by decide +kernel
theorem dX10_back_37 : decode cX10_back 37 = .ok (.getfield 9, 3) := by decide +kernel
theorem dX10_back_40 : decode cX10_back 40 = .ok (.iload_n 2, 1) := by decide +kernel
theorem dX10_back_41 : decode cX10_back 41 = .ok (.aload_n 0, 1) := by decide +kernel
theorem dX10_back_42 : decode cX10_back 42 = .ok (.getfield 13, 3) := by decide +kernel
theorem dX10_back_45 : decode cX10_back 45 = .ok (.sipush 149, 3) := by decide +kernel
theorem dX10_back_48 : decode cX10_back 48 = .ok (.iload_n 1, 1) := by decide +kernel
theorem dX10_back_49 : decode cX10_back 49 = .ok (.imul, 1) := by decide +kernel
theorem dX10_back_50 : decode cX10_back 50 = .ok (.iload_n 2, 1) := by decide +kernel
theorem dX10_back_51 : decode cX10_back 51 = .ok (.iadd, 1) := by decide +kernel
theorem dX10_back_52 : decode cX10_back 52 = .ok (.iaload, 1) := by decide +kernel
theorem dX10_back_53 : decode cX10_back 53 = .ok (.iastore, 1) := by decide +kernel
theorem dX10_back_54 : decode cX10_back 54 = .ok (.iinc 2 1, 3) := by decide +kernel
theorem dX10_back_57 : decode cX10_back 57 = .ok (.goto (-28), 3) := by decide +kernel
theorem dX10_back_60 : decode cX10_back 60 = .ok (.iconst 0, 1) := by decide +kernel
theorem dX10_back_61 : decode cX10_back 61 = .ok (.ireturn, 1) := by decide +kernel
theorem dX10_image_0 : decode cX10_image 0 = .ok (.iload_n 1, 1) := by decide +kernel
theorem dX10_image_1 : decode cX10_image 1 = .ok (.i2l, 1) := by decide +kernel
theorem dX10_image_2 : decode cX10_image 2 = .ok (.lconst 0, 1) := by decide +kernel
theorem dX10_image_3 : decode cX10_image 3 = .ok (.ldc2_w 104, 3) := by decide +kernel
theorem dX10_image_6 : decode cX10_image 6 = .ok (.invokestatic 106, 3) := by decide +kernel
theorem dX10_image_9 : decode cX10_image 9 = .ok (.ifCond .ne 6, 3) := by decide +kernel
theorem dX10_image_12 : decode cX10_image 12 = .ok (.bipush (-2), 2) := by decide +kernel
theorem dX10_image_14 : decode cX10_image 14 = .ok (.ireturn, 1) := by decide +kernel
theorem dX10_image_15 : decode cX10_image 15 = .ok (.iconst 0, 1) := by decide +kernel
theorem dX10_image_16 : decode cX10_image 16 = .ok (.istore_n 2, 1) := by decide +kernel
theorem dX10_image_17 : decode cX10_image 17 = .ok (.iload_n 2, 1) := by decide +kernel
theorem dX10_image_18 : decode cX10_image 18 = .ok (.sipush 149, 3) := by decide +kernel
theorem dX10_image_21 : decode cX10_image 21 = .ok (.if_icmp .ge 27, 3) := by decide +kernel
theorem dX10_image_24 : decode cX10_image 24 = .ok (.aload_n 0, 1) := by decide +kernel
theorem dX10_image_25 : decode cX10_image 25 = .ok (.getfield 13, 3) := by decide +kernel
theorem dX10_image_28 : decode cX10_image 28 = .ok (.sipush 149, 3) := by decide +kernel
theorem dX10_image_31 : decode cX10_image 31 = .ok (.iload_n 1, 1) := by decide +kernel
theorem dX10_image_32 : decode cX10_image 32 = .ok (.imul, 1) := by decide +kernel
theorem dX10_image_33 : decode cX10_image 33 = .ok (.iload_n 2, 1) := by decide +kernel
theorem dX10_image_34 : decode cX10_image 34 = .ok (.iadd, 1) := by decide +kernel
theorem dX10_image_35 : decode cX10_image 35 = .ok (.aload_n 0, 1) := by decide +kernel
theorem dX10_image_36 : decode cX10_image 36 = .ok (.getfield 9, 3) := by decide +kernel
theorem dX10_image_39 : decode cX10_image 39 = .ok (.iload_n 2, 1) := by decide +kernel
theorem dX10_image_40 : decode cX10_image 40 = .ok (.iaload, 1) := by decide +kernel
theorem dX10_image_41 : decode cX10_image 41 = .ok (.iastore, 1) := by decide +kernel
theorem dX10_image_42 : decode cX10_image 42 = .ok (.iinc 2 1, 3) := by decide +kernel
theorem dX10_image_45 : decode cX10_image 45 = .ok (.goto (-28), 3) := by decide +kernel
theorem dX10_image_48 : decode cX10_image 48 = .ok (.aload_n 0, 1) := by decide +kernel
theorem dX10_image_49 : decode cX10_image 49 = .ok (.getfield 16, 3) := by decide +kernel
theorem dX10_image_52 : decode cX10_image 52 = .ok (.iload_n 1, 1) := by decide +kernel
theorem dX10_image_53 : decode cX10_image 53 = .ok (.iconst 1, 1) := by decide +kernel
theorem dX10_image_54 : decode cX10_image 54 = .ok (.bastore, 1) := by decide +kernel
theorem dX10_image_55 : decode cX10_image 55 = .ok (.iconst 0, 1) := by decide +kernel
theorem dX10_image_56 : decode cX10_image 56 = .ok (.ireturn, 1) := by decide +kernel
theorem dX10_paste_0 : decode cX10_paste 0 = .ok (.iload_n 1, 1) := by decide +kernel
theorem dX10_paste_1 : decode cX10_paste 1 = .ok (.invokestatic 422, 3) := by decide +kernel
theorem dX10_paste_4 : decode cX10_paste 4 = .ok (.ifCond .eq 10, 3) := by decide +kernel
theorem dX10_paste_7 : decode cX10_paste 7 = .ok (.iload_n 3, 1) := by decide +kernel
theorem dX10_paste_8 : decode cX10_paste 8 = .ok (.invokestatic 422, 3) := by decide +kernel
theorem dX10_paste_11 : decode cX10_paste 11 = .ok (.ifCond .ne 6, 3) := by decide +kernel
theorem dX10_paste_14 : decode cX10_paste 14 = .ok (.bipush (-2), 2) := by decide +kernel
theorem dX10_paste_16 : decode cX10_paste 16 = .ok (.ireturn, 1) := by decide +kernel
theorem dX10_paste_17 : decode cX10_paste 17 = .ok (.aload_n 0, 1) := by decide +kernel
theorem dX10_paste_18 : decode cX10_paste 18 = .ok (.getfield 88, 3) := by decide +kernel
theorem dX10_paste_21 : decode cX10_paste 21 = .ok (.iload_n 1, 1) := by decide +kernel
theorem dX10_paste_22 : decode cX10_paste 22 = .ok (.iaload, 1) := by decide +kernel
theorem dX10_paste_23 : decode cX10_paste 23 = .ok (.iconst (-1), 1) := by decide +kernel
theorem dX10_paste_24 : decode cX10_paste 24 = .ok (.if_icmp .eq 13, 3) := by decide +kernel
theorem dX10_paste_27 : decode cX10_paste 27 = .ok (.aload_n 0, 1) := by decide +kernel
theorem dX10_paste_28 : decode cX10_paste 28 = .ok (.getfield 88, 3) := by decide +kernel
theorem dX10_paste_31 : decode cX10_paste 31 = .ok (.iload_n 3, 1) := by decide +kernel
theorem dX10_paste_32 : decode cX10_paste 32 = .ok (.iaload, 1) := by decide +kernel
theorem dX10_paste_33 : decode cX10_paste 33 = .ok (.iconst (-1), 1) := by decide +kernel
theorem dX10_paste_34 : decode cX10_paste 34 = .ok (.if_icmp .ne 6, 3) := by decide +kernel
theorem dX10_paste_37 : decode cX10_paste 37 = .ok (.bipush (-6), 2) := by decide +kernel
theorem dX10_paste_39 : decode cX10_paste 39 = .ok (.ireturn, 1) := by decide +kernel
theorem dX10_paste_40 : decode cX10_paste 40 = .ok (.aload_n 0, 1) := by decide +kernel
theorem dX10_paste_41 : decode cX10_paste 41 = .ok (.getfield 91, 3) := by decide +kernel
theorem dX10_paste_44 : decode cX10_paste 44 = .ok (.iload_n 1, 1) := by decide +kernel
theorem dX10_paste_45 : decode cX10_paste 45 = .ok (.iaload, 1) := by decide +kernel
theorem dX10_paste_46 : decode cX10_paste 46 = .ok (.aload_n 0, 1) := by decide +kernel
theorem dX10_paste_47 : decode cX10_paste 47 = .ok (.getfield 91, 3) := by decide +kernel
theorem dX10_paste_50 : decode cX10_paste 50 = .ok (.iload_n 3, 1) := by decide +kernel
theorem dX10_paste_51 : decode cX10_paste 51 = .ok (.iaload, 1) := by decide +kernel
theorem dX10_paste_52 : decode cX10_paste 52 = .ok (.if_icmp .eq 6, 3) := by decide +kernel
theorem dX10_paste_55 : decode cX10_paste 55 = .ok (.bipush (-8), 2) := by decide +kernel
theorem dX10_paste_57 : decode cX10_paste 57 = .ok (.ireturn, 1) := by decide +kernel
theorem dX10_paste_58 : decode cX10_paste 58 = .ok (.iload_n 2, 1) := by decide +kernel
theorem dX10_paste_59 : decode cX10_paste 59 = .ok (.ifCond .lt 48, 3) := by decide +kernel
theorem dX10_paste_62 : decode cX10_paste 62 = .ok (.iload 4, 2) := by decide +kernel
theorem dX10_paste_64 : decode cX10_paste 64 = .ok (.ifCond .lt 43, 3) := by decide +kernel
theorem dX10_paste_67 : decode cX10_paste 67 = .ok (.iload 5, 2) := by decide +kernel
theorem dX10_paste_69 : decode cX10_paste 69 = .ok (.ifCond .lt 38, 3) := by decide +kernel
theorem dX10_paste_72 : decode cX10_paste 72 = .ok (.iload_n 2, 1) := by decide +kernel
theorem dX10_paste_73 : decode cX10_paste 73 = .ok (.i2l, 1) := by decide +kernel
theorem dX10_paste_74 : decode cX10_paste 74 = .ok (.iload 5, 2) := by decide +kernel
theorem dX10_paste_76 : decode cX10_paste 76 = .ok (.i2l, 1) := by decide +kernel
theorem dX10_paste_77 : decode cX10_paste 77 = .ok (.ladd, 1) := by decide +kernel
theorem dX10_paste_78 : decode cX10_paste 78 = .ok (.aload_n 0, 1) := by decide +kernel
theorem dX10_paste_79 : decode cX10_paste 79 = .ok (.getfield 88, 3) := by decide +kernel
theorem dX10_paste_82 : decode cX10_paste 82 = .ok (.iload_n 1, 1) := by decide +kernel
theorem dX10_paste_83 : decode cX10_paste 83 = .ok (.iaload, 1) := by decide +kernel
theorem dX10_paste_84 : decode cX10_paste 84 = .ok (.i2l, 1) := by decide +kernel
theorem dX10_paste_85 : decode cX10_paste 85 = .ok (.lcmp, 1) := by decide +kernel
theorem dX10_paste_86 : decode cX10_paste 86 = .ok (.ifCond .gt 21, 3) := by decide +kernel
theorem dX10_paste_89 : decode cX10_paste 89 = .ok (.iload 4, 2) := by decide +kernel
theorem dX10_paste_91 : decode cX10_paste 91 = .ok (.i2l, 1) := by decide +kernel
theorem dX10_paste_92 : decode cX10_paste 92 = .ok (.iload 5, 2) := by decide +kernel
theorem dX10_paste_94 : decode cX10_paste 94 = .ok (.i2l, 1) := by decide +kernel
theorem dX10_paste_95 : decode cX10_paste 95 = .ok (.ladd, 1) := by decide +kernel
theorem dX10_paste_96 : decode cX10_paste 96 = .ok (.aload_n 0, 1) := by decide +kernel
theorem dX10_paste_97 : decode cX10_paste 97 = .ok (.getfield 88, 3) := by decide +kernel
theorem dX10_paste_100 : decode cX10_paste 100 = .ok (.iload_n 3, 1) := by decide +kernel
theorem dX10_paste_101 : decode cX10_paste 101 = .ok (.iaload, 1) := by decide +kernel
theorem dX10_paste_102 : decode cX10_paste 102 = .ok (.i2l, 1) := by decide +kernel
theorem dX10_paste_103 : decode cX10_paste 103 = .ok (.lcmp, 1) := by decide +kernel
theorem dX10_paste_104 : decode cX10_paste 104 = .ok (.ifCond .le 6, 3) := by decide +kernel
theorem dX10_paste_107 : decode cX10_paste 107 = .ok (.bipush (-7), 2) := by decide +kernel
theorem dX10_paste_109 : decode cX10_paste 109 = .ok (.ireturn, 1) := by decide +kernel
theorem dX10_paste_110 : decode cX10_paste 110 = .ok (.iconst 0, 1) := by decide +kernel
theorem dX10_paste_111 : decode cX10_paste 111 = .ok (.istore 6, 2) := by decide +kernel
theorem dX10_paste_113 : decode cX10_paste 113 = .ok (.iload 6, 2) := by decide +kernel
theorem dX10_paste_115 : decode cX10_paste 115 = .ok (.iload 5, 2) := by decide +kernel
theorem dX10_paste_117 : decode cX10_paste 117 = .ok (.if_icmp .ge 30, 3) := by decide +kernel
theorem dX10_paste_120 : decode cX10_paste 120 = .ok (.aload_n 0, 1) := by decide +kernel
theorem dX10_paste_121 : decode cX10_paste 121 = .ok (.getfield 98, 3) := by decide +kernel
theorem dX10_paste_124 : decode cX10_paste 124 = .ok (.iload 6, 2) := by decide +kernel
theorem dX10_paste_126 : decode cX10_paste 126 = .ok (.aload_n 0, 1) := by decide +kernel
theorem dX10_paste_127 : decode cX10_paste 127 = .ok (.getfield 94, 3) := by decide +kernel
theorem dX10_paste_130 : decode cX10_paste 130 = .ok (.bipush 60, 2) := by decide +kernel
theorem dX10_paste_132 : decode cX10_paste 132 = .ok (.iload_n 1, 1) := by decide +kernel
theorem dX10_paste_133 : decode cX10_paste 133 = .ok (.imul, 1) := by decide +kernel
theorem dX10_paste_134 : decode cX10_paste 134 = .ok (.iload_n 2, 1) := by decide +kernel
theorem dX10_paste_135 : decode cX10_paste 135 = .ok (.iadd, 1) := by decide +kernel
theorem dX10_paste_136 : decode cX10_paste 136 = .ok (.iload 6, 2) := by decide +kernel
theorem dX10_paste_138 : decode cX10_paste 138 = .ok (.iadd, 1) := by decide +kernel
theorem dX10_paste_139 : decode cX10_paste 139 = .ok (.laload, 1) := by decide +kernel
theorem dX10_paste_140 : decode cX10_paste 140 = .ok (.lastore, 1) := by decide +kernel
theorem dX10_paste_141 : decode cX10_paste 141 = .ok (.iinc 6 1, 3) := by decide +kernel
theorem dX10_paste_144 : decode cX10_paste 144 = .ok (.goto (-31), 3) := by decide +kernel
theorem dX10_paste_147 : decode cX10_paste 147 = .ok (.iconst 0, 1) := by decide +kernel
theorem dX10_paste_148 : decode cX10_paste 148 = .ok (.istore 6, 2) := by decide +kernel
theorem dX10_paste_150 : decode cX10_paste 150 = .ok (.iload 6, 2) := by decide +kernel
theorem dX10_paste_152 : decode cX10_paste 152 = .ok (.iload 5, 2) := by decide +kernel
theorem dX10_paste_154 : decode cX10_paste 154 = .ok (.if_icmp .ge 31, 3) := by decide +kernel
theorem dX10_paste_157 : decode cX10_paste 157 = .ok (.aload_n 0, 1) := by decide +kernel
theorem dX10_paste_158 : decode cX10_paste 158 = .ok (.getfield 94, 3) := by decide +kernel
theorem dX10_paste_161 : decode cX10_paste 161 = .ok (.bipush 60, 2) := by decide +kernel
theorem dX10_paste_163 : decode cX10_paste 163 = .ok (.iload_n 3, 1) := by decide +kernel
theorem dX10_paste_164 : decode cX10_paste 164 = .ok (.imul, 1) := by decide +kernel
theorem dX10_paste_165 : decode cX10_paste 165 = .ok (.iload 4, 2) := by decide +kernel
theorem dX10_paste_167 : decode cX10_paste 167 = .ok (.iadd, 1) := by decide +kernel
theorem dX10_paste_168 : decode cX10_paste 168 = .ok (.iload 6, 2) := by decide +kernel
theorem dX10_paste_170 : decode cX10_paste 170 = .ok (.iadd, 1) := by decide +kernel
theorem dX10_paste_171 : decode cX10_paste 171 = .ok (.aload_n 0, 1) := by decide +kernel
theorem dX10_paste_172 : decode cX10_paste 172 = .ok (.getfield 98, 3) := by decide +kernel
theorem dX10_paste_175 : decode cX10_paste 175 = .ok (.iload 6, 2) := by decide +kernel
theorem dX10_paste_177 : decode cX10_paste 177 = .ok (.laload, 1) := by decide +kernel
theorem dX10_paste_178 : decode cX10_paste 178 = .ok (.lastore, 1) := by decide +kernel
theorem dX10_paste_179 : decode cX10_paste 179 = .ok (.iinc 6 1, 3) := by decide +kernel
theorem dX10_paste_182 : decode cX10_paste 182 = .ok (.goto (-32), 3) := by decide +kernel
theorem dX10_paste_185 : decode cX10_paste 185 = .ok (.iconst 0, 1) := by decide +kernel
theorem dX10_paste_186 : decode cX10_paste 186 = .ok (.ireturn, 1) := by decide +kernel
theorem dX10_row_0 : decode cX10_row 0 = .ok (.iload_n 1, 1) := by decide +kernel
theorem dX10_row_1 : decode cX10_row 1 = .ok (.invokestatic 422, 3) := by decide +kernel
theorem dX10_row_4 : decode cX10_row 4 = .ok (.ifCond .eq 21, 3) := by decide +kernel
theorem dX10_row_7 : decode cX10_row 7 = .ok (.iload_n 2, 1) := by decide +kernel
theorem dX10_row_8 : decode cX10_row 8 = .ok (.i2l, 1) := by decide +kernel
theorem dX10_row_9 : decode cX10_row 9 = .ok (.lconst 0, 1) := by decide +kernel
theorem dX10_row_10 : decode cX10_row 10 = .ok (.ldc2_w 449, 3) := by decide +kernel
theorem dX10_row_13 : decode cX10_row 13 = .ok (.invokestatic 106, 3) := by decide +kernel
theorem dX10_row_16 : decode cX10_row 16 = .ok (.ifCond .eq 9, 3) := by decide +kernel
theorem dX10_row_19 : decode cX10_row 19 = .ok (.iload_n 3, 1) := by decide +kernel
theorem dX10_row_20 : decode cX10_row 20 = .ok (.bipush 60, 2) := by decide +kernel
theorem dX10_row_22 : decode cX10_row 22 = .ok (.if_icmp .le 6, 3) := by decide +kernel
theorem dX10_row_25 : decode cX10_row 25 = .ok (.bipush (-2), 2) := by decide +kernel
theorem dX10_row_27 : decode cX10_row 27 = .ok (.ireturn, 1) := by decide +kernel
theorem dX10_row_28 : decode cX10_row 28 = .ok (.iload_n 3, 1) := by decide +kernel
theorem dX10_row_29 : decode cX10_row 29 = .ok (.ifCond .ge 6, 3) := by decide +kernel
theorem dX10_row_32 : decode cX10_row 32 = .ok (.bipush (-3), 2) := by decide +kernel
theorem dX10_row_34 : decode cX10_row 34 = .ok (.ireturn, 1) := by decide +kernel
theorem dX10_row_35 : decode cX10_row 35 = .ok (.aload_n 0, 1) := by decide +kernel
theorem dX10_row_36 : decode cX10_row 36 = .ok (.getfield 88, 3) := by decide +kernel
theorem dX10_row_39 : decode cX10_row 39 = .ok (.iload_n 1, 1) := by decide +kernel
theorem dX10_row_40 : decode cX10_row 40 = .ok (.iload_n 3, 1) := by decide +kernel
theorem dX10_row_41 : decode cX10_row 41 = .ok (.iastore, 1) := by decide +kernel
theorem dX10_row_42 : decode cX10_row 42 = .ok (.aload_n 0, 1) := by decide +kernel
theorem dX10_row_43 : decode cX10_row 43 = .ok (.getfield 91, 3) := by decide +kernel
theorem dX10_row_46 : decode cX10_row 46 = .ok (.iload_n 1, 1) := by decide +kernel
theorem dX10_row_47 : decode cX10_row 47 = .ok (.iload_n 2, 1) := by decide +kernel
theorem dX10_row_48 : decode cX10_row 48 = .ok (.iastore, 1) := by decide +kernel
theorem dX10_row_49 : decode cX10_row 49 = .ok (.iconst 0, 1) := by decide +kernel
theorem dX10_row_50 : decode cX10_row 50 = .ok (.istore 4, 2) := by decide +kernel
theorem dX10_row_52 : decode cX10_row 52 = .ok (.iload 4, 2) := by decide +kernel
theorem dX10_row_54 : decode cX10_row 54 = .ok (.bipush 60, 2) := by decide +kernel
theorem dX10_row_56 : decode cX10_row 56 = .ok (.if_icmp .ge 22, 3) := by decide +kernel
theorem dX10_row_59 : decode cX10_row 59 = .ok (.aload_n 0, 1) := by decide +kernel
theorem dX10_row_60 : decode cX10_row 60 = .ok (.getfield 94, 3) := by decide +kernel
theorem dX10_row_63 : decode cX10_row 63 = .ok (.bipush 60, 2) := by decide +kernel
theorem dX10_row_65 : decode cX10_row 65 = .ok (.iload_n 1, 1) := by decide +kernel
theorem dX10_row_66 : decode cX10_row 66 = .ok (.imul, 1) := by decide +kernel
theorem dX10_row_67 : decode cX10_row 67 = .ok (.iload 4, 2) := by decide +kernel
theorem dX10_row_69 : decode cX10_row 69 = .ok (.iadd, 1) := by decide +kernel
theorem dX10_row_70 : decode cX10_row 70 = .ok (.lconst 0, 1) := by decide +kernel
theorem dX10_row_71 : decode cX10_row 71 = .ok (.lastore, 1) := by decide +kernel
theorem dX10_row_72 : decode cX10_row 72 = .ok (.iinc 4 1, 3) := by decide +kernel
theorem dX10_row_75 : decode cX10_row 75 = .ok (.goto (-23), 3) := by decide +kernel
theorem dX10_row_78 : decode cX10_row 78 = .ok (.iconst 0, 1) := by decide +kernel
theorem dX10_row_79 : decode cX10_row 79 = .ok (.ireturn, 1) := by decide +kernel
theorem dX10_write_0 : decode cX10_write 0 = .ok (.iload_n 1, 1) := by decide +kernel
theorem dX10_write_1 : decode cX10_write 1 = .ok (.invokestatic 422, 3) := by decide +kernel
theorem dX10_write_4 : decode cX10_write 4 = .ok (.ifCond .ne 6, 3) := by decide +kernel
theorem dX10_write_7 : decode cX10_write 7 = .ok (.bipush (-2), 2) := by decide +kernel
theorem dX10_write_9 : decode cX10_write 9 = .ok (.ireturn, 1) := by decide +kernel
theorem dX10_write_10 : decode cX10_write 10 = .ok (.aload_n 0, 1) := by decide +kernel
theorem dX10_write_11 : decode cX10_write 11 = .ok (.getfield 88, 3) := by decide +kernel
theorem dX10_write_14 : decode cX10_write 14 = .ok (.iload_n 1, 1) := by decide +kernel
theorem dX10_write_15 : decode cX10_write 15 = .ok (.iaload, 1) := by decide +kernel
theorem dX10_write_16 : decode cX10_write 16 = .ok (.iconst (-1), 1) := by decide +kernel
theorem dX10_write_17 : decode cX10_write 17 = .ok (.if_icmp .ne 6, 3) := by decide +kernel
theorem dX10_write_20 : decode cX10_write 20 = .ok (.bipush (-6), 2) := by decide +kernel
theorem dX10_write_22 : decode cX10_write 22 = .ok (.ireturn, 1) := by decide +kernel
theorem dX10_write_23 : decode cX10_write 23 = .ok (.iload_n 2, 1) := by decide +kernel
theorem dX10_write_24 : decode cX10_write 24 = .ok (.i2l, 1) := by decide +kernel
theorem dX10_write_25 : decode cX10_write 25 = .ok (.lconst 0, 1) := by decide +kernel
theorem dX10_write_26 : decode cX10_write 26 = .ok (.aload_n 0, 1) := by decide +kernel
theorem dX10_write_27 : decode cX10_write 27 = .ok (.getfield 88, 3) := by decide +kernel
theorem dX10_write_30 : decode cX10_write 30 = .ok (.iload_n 1, 1) := by decide +kernel
theorem dX10_write_31 : decode cX10_write 31 = .ok (.iaload, 1) := by decide +kernel
theorem dX10_write_32 : decode cX10_write 32 = .ok (.iconst 1, 1) := by decide +kernel
theorem dX10_write_33 : decode cX10_write 33 = .ok (.isub, 1) := by decide +kernel
theorem dX10_write_34 : decode cX10_write 34 = .ok (.i2l, 1) := by decide +kernel
theorem dX10_write_35 : decode cX10_write 35 = .ok (.invokestatic 106, 3) := by decide +kernel
theorem dX10_write_38 : decode cX10_write 38 = .ok (.ifCond .ne 6, 3) := by decide +kernel
theorem dX10_write_41 : decode cX10_write 41 = .ok (.bipush (-7), 2) := by decide +kernel
theorem dX10_write_43 : decode cX10_write 43 = .ok (.ireturn, 1) := by decide +kernel
theorem dX10_write_44 : decode cX10_write 44 = .ok (.aload_n 0, 1) := by decide +kernel
theorem dX10_write_45 : decode cX10_write 45 = .ok (.getfield 94, 3) := by decide +kernel
theorem dX10_write_48 : decode cX10_write 48 = .ok (.bipush 60, 2) := by decide +kernel
theorem dX10_write_50 : decode cX10_write 50 = .ok (.iload_n 1, 1) := by decide +kernel
theorem dX10_write_51 : decode cX10_write 51 = .ok (.imul, 1) := by decide +kernel
theorem dX10_write_52 : decode cX10_write 52 = .ok (.iload_n 2, 1) := by decide +kernel
theorem dX10_write_53 : decode cX10_write 53 = .ok (.iadd, 1) := by decide +kernel
theorem dX10_write_54 : decode cX10_write 54 = .ok (.lload_n 3, 1) := by decide +kernel
theorem dX10_write_55 : decode cX10_write 55 = .ok (.aload_n 0, 1) := by decide +kernel
theorem dX10_write_56 : decode cX10_write 56 = .ok (.getfield 91, 3) := by decide +kernel
theorem dX10_write_59 : decode cX10_write 59 = .ok (.iload_n 1, 1) := by decide +kernel
theorem dX10_write_60 : decode cX10_write 60 = .ok (.iaload, 1) := by decide +kernel
theorem dX10_write_61 : decode cX10_write 61 = .ok (.invokestatic 525, 3) := by decide +kernel
theorem dX10_write_64 : decode cX10_write 64 = .ok (.lastore, 1) := by decide +kernel
theorem dX10_write_65 : decode cX10_write 65 = .ok (.iconst 0, 1) := by decide +kernel
theorem dX10_write_66 : decode cX10_write 66 = .ok (.ireturn, 1) := by decide +kernel
set_option maxHeartbeats 4000000 in
set_option maxRecDepth 100000 in
theorem f_X10_row (l : Launch) (G : va_G) (cI cJ cZ cB cQ : ClassId) (sz : Nat) (h0 : Nat) (p0 : Int32) (a0 : Int) (p1 : Int32) (a1 : Int) (p2 : Int32) (a2 : Int) (b : Nat → Nat) (o_thrown : Int32) (o_taped : Int32) (o_size : Int32) (o_at : Int32) (o_from : Int32) (o_token : Int32) (o_value : Int32) (o_faultKind : Int32) (o_faultPlace : Int32) (o_lawNow : Int32) (o_walkSet : Int32) (o_oneWidow : Int32) (o_oneTurn : Int32) (o_askWorst : Int32) (o_mayWalk : Int32) (o_oftenAll : Int64) (o_oftenRoad : Int64) (o_oftenPegs : Int64) (o_f42 : Nat → Int32) (o_f43 : Nat → Int32) (o_f44 : Nat → Int64) (hp0 : p0.toInt = a0) (hp1 : p1.toInt = a1) (hp2 : p2.toInt = a2) (hl_o_taped : 0 ≤ o_taped.toInt) (hh_o_taped : o_taped.toInt ≤ 900) (hl_o_size : 0 ≤ o_size.toInt) (hh_o_size : o_size.toInt ≤ 900) (hl_o_at : 0 ≤ o_at.toInt) (hh_o_at : o_at.toInt ≤ 900) (hl_o_from : 0 ≤ o_from.toInt) (hh_o_from : o_from.toInt ≤ 900) (hl_o_oneTurn : 0 ≤ o_oneTurn.toInt) (hh_o_oneTurn : o_oneTurn.toInt ≤ 4) (ha_o_f42 : ai o_f42 4 (-1) 60) : CI l yX10_row (wl_ yX10_row cX10_row 5 (some .int)) ({ frames := 2, cells := 0, slots := 0, locals := 45 } : Room) G (TY cI cJ cZ cB cQ) [.ref h0, .int p0, .int p1, .int p2] [(h0, oX10 b o_thrown o_taped o_size o_at o_from o_token o_value o_faultKind o_faultPlace o_lawNow o_walkSet o_oneWidow o_oneTurn o_askWorst o_mayWalk o_oftenAll o_oftenRoad o_oftenPegs), (b 42, .inl (cI, 4, .inl o_f42)), (b 43, .inl (cI, 4, .inl o_f43)), (b 44, .inl (cJ, 240, .inr (.inl o_f44)))] sz (fun (r : Int32) (u : (Nat → Int32) × (Nat → Int32) × (Nat → Int64)) => ai u.1 4 (-1) 60 ∧ (r = (if p0.toInt < 0 ∨ 3 < p0.toInt ∨ p1.toInt < 0 ∨ 3 < p1.toInt ∨ 60 < p2.toInt then -2 else if p2.toInt < 0 then -3 else 0)) ∧ ((r = 0 ∧ 0 ≤ p0.toInt ∧ p0.toInt ≤ 3 ∧ 0 ≤ p2.toInt ∧ p2.toInt ≤ 60 ∧ u.1 = upd o_f42 p0.toNatClampNeg p2 ∧ u.2.1 = upd o_f43 p0.toNatClampNeg p1) ∨ (¬ r = 0 ∧ u.1 = o_f42 ∧ u.2.1 = o_f43))) (fun u : (Nat → Int32) × (Nat → Int32) × (Nat → Int64) => [(h0, oX10 b o_thrown o_taped o_size o_at o_from o_token o_value o_faultKind o_faultPlace o_lawNow o_walkSet o_oneWidow o_oneTurn o_askWorst o_mayWalk o_oftenAll o_oftenRoad o_oftenPegs), (b 42, .inl (cI, 4, .inl u.1)), (b 43, .inl (cI, 4, .inl u.2.1)), (b 44, .inl (cJ, 240, .inr (.inl u.2.2)))]) 0 0 := by
  refine CI.go (cc := cX10_row) (maxL := 5) (ret := (some .int)) (by decide) rfl (Nat.le_of_ble_eq_true rfl) ?_
  intro p e s m below meth c A ls Q hBd hret
  obtain ⟨hx, hb, hr, hml, hts, hown, hlk, hnm, hP, hK, hD, hA, hZ, hl⟩ := hBd
  have hown : s.vm.findClass RX10 = some m.cls := hown
  have hl : lv_has ls 5 [(0, .ref h0), (1, .int p0), (2, .int p1), (3, .int p2)] := hl
  have hS : va_S A s.heap s.heap [] := va_S.rf
  refine lv_iload_n hx hb dX10_row_0 rfl (lv_at hl 1 rfl) ?_
  refine k_i (wc := []) (wr := [(h0, oX10 b o_thrown o_taped o_size o_at o_from o_token o_value o_faultKind o_faultPlace o_lawNow o_walkSet o_oneWidow o_oneTurn o_askWorst o_mayWalk o_oftenAll o_oftenRoad o_oftenPegs), (b 42, .inl (cI, 4, .inl o_f42)), (b 43, .inl (cI, 4, .inl o_f43)), (b 44, .inl (cJ, 240, .inr (.inl o_f44)))]) hP hD hS hA [] [0, 1, 2, 3] rfl rfl rfl (by decide) (va_runS (As := [.int p0]) (rest := []) ⟨hx, hb, hml, hown, hts⟩ (f_X10_isSlot l G cI cJ cZ cB cQ _ p0 a0 hp0) (va_cwS 1 hts (gS w_1816 w_1817 w_11 w_1818) rfl rfl rfl hd_X10_isSlot ⟨Nat.le_of_ble_eq_true rfl, Nat.le_of_ble_eq_true rfl⟩) (mS hK hZ hP hD [] rfl rfl [.int p0]) rfl rfl hl.1 rfl (lv_room (Nat.le_of_ble_eq_true rfl)) dX10_row_1 ⟨Nat.le_of_ble_eq_true rfl, Nat.le_of_ble_eq_true rfl⟩) (fun r1 u2 H locs hw3 hP hD hS => ?_)
  try dsimp only at hw3
  have hP : va_P G vwCl [(h0, oX10 b o_thrown o_taped o_size o_at o_from o_token o_value o_faultKind o_faultPlace o_lawNow o_walkSet o_oneWidow o_oneTurn o_askWorst o_mayWalk o_oftenAll o_oftenRoad o_oftenPegs), (b 42, .inl (cI, 4, .inl o_f42)), (b 43, .inl (cI, 4, .inl o_f43)), (b 44, .inl (cJ, 240, .inr (.inl o_f44)))] H := hP
  have hD : va_D A [(h0, oX10 b o_thrown o_taped o_size o_at o_from o_token o_value o_faultKind o_faultPlace o_lawNow o_walkSet o_oneWidow o_oneTurn o_askWorst o_mayWalk o_oftenAll o_oftenRoad o_oftenPegs), (b 42, .inl (cI, 4, .inl o_f42)), (b 43, .inl (cI, 4, .inl o_f43)), (b 44, .inl (cJ, 240, .inr (.inl o_f44)))] := hD
  rcases hw3 with ⟨rfl, a5, a6⟩ | ⟨rfl, a7⟩
  · skip
    refine lv_if_eq (tgt := 25) hx hb dX10_row_4 (by decide) (fun c8 => absurd c8 (by decide)) (fun c8 => ?_)
    refine lv_iload_n hx hb dX10_row_7 rfl (lv_at hl 2 rfl) ?_
    obtain ⟨v9, ev9⟩ : ∃ y : Int64, p1.toInt64 = y := ⟨_, rfl⟩
    have tv9 : v9.toInt = a1 := ti_wide hp1 ev9
    refine lv_i2l (v := v9) hx hb dX10_row_8 ev9 ?_
    refine lv_lconst (v := 0) hx hb dX10_row_9 (by decide) ?_
    refine lv_ldc2 (v := 3) hx hb hown (hts _ w_1819) dX10_row_10 ?_
    refine k_i (wc := []) (wr := [(h0, oX10 b o_thrown o_taped o_size o_at o_from o_token o_value o_faultKind o_faultPlace o_lawNow o_walkSet o_oneWidow o_oneTurn o_askWorst o_mayWalk o_oftenAll o_oftenRoad o_oftenPegs), (b 42, .inl (cI, 4, .inl o_f42)), (b 43, .inl (cI, 4, .inl o_f43)), (b 44, .inl (cJ, 240, .inr (.inl o_f44)))]) hP hD hS hA [] [0, 1, 2, 3] rfl rfl rfl (by decide) (va_runS (As := [.long v9, .long 0, .long 3]) (rest := []) ⟨hx, hb, hml, hown, hts⟩ (f_X10_in l G cI cJ cZ cB cQ _ v9 a1 0 0 3 3 tv9 kl_0 kl_3) (va_cwS 3 hts (gS w_1336 w_1337 w_11 w_1338) rfl rfl rfl hd_X10_in ⟨Nat.le_of_ble_eq_true rfl, Nat.le_of_ble_eq_true rfl⟩) (mS hK hZ hP hD [] rfl rfl [.long v9, .long 0, .long 3]) rfl rfl hl.1 rfl (lv_room (Nat.le_of_ble_eq_true rfl)) dX10_row_13 ⟨Nat.le_of_ble_eq_true rfl, Nat.le_of_ble_eq_true rfl⟩) (fun r10 u11 H locs hw12 hP hD hS => ?_)
    try dsimp only at hw12
    have hP : va_P G vwCl [(h0, oX10 b o_thrown o_taped o_size o_at o_from o_token o_value o_faultKind o_faultPlace o_lawNow o_walkSet o_oneWidow o_oneTurn o_askWorst o_mayWalk o_oftenAll o_oftenRoad o_oftenPegs), (b 42, .inl (cI, 4, .inl o_f42)), (b 43, .inl (cI, 4, .inl o_f43)), (b 44, .inl (cJ, 240, .inr (.inl o_f44)))] H := hP
    have hD : va_D A [(h0, oX10 b o_thrown o_taped o_size o_at o_from o_token o_value o_faultKind o_faultPlace o_lawNow o_walkSet o_oneWidow o_oneTurn o_askWorst o_mayWalk o_oftenAll o_oftenRoad o_oftenPegs), (b 42, .inl (cI, 4, .inl o_f42)), (b 43, .inl (cI, 4, .inl o_f43)), (b 44, .inl (cJ, 240, .inr (.inl o_f44)))] := hD
    rcases hw12 with ⟨rfl, a14, a15⟩ | ⟨rfl, a16⟩
    · skip
      refine lv_if_eq (tgt := 25) hx hb dX10_row_16 (by decide) (fun c17 => absurd c17 (by decide)) (fun c17 => ?_)
      refine lv_iload_n hx hb dX10_row_19 rfl (lv_at hl 3 rfl) ?_
      refine lv_bipush (v := 60) hx hb dX10_row_20 (by decide) ?_
      refine lv_icmp_le (tgt := 28) hx hb dX10_row_22 (by decide) (fun c18 => ?_) (fun c18 => ?_)
      · have c18 := i_le hp2 ki_60 c18
        refine lv_iload_n hx hb dX10_row_28 rfl (lv_at hl 3 rfl) ?_
        refine lv_if_ge (tgt := 35) hx hb dX10_row_29 (by decide) (fun c19 => ?_) (fun c19 => ?_)
        · have c19 := i_le ki_0 hp2 c19
          refine lv_aload_n hx hb dX10_row_35 rfl (lv_at hl 0 rfl) ?_
          refine va_get (D := G) (ci := 10) (v := .ref (b 42)) (C := RX10) (T := TX10) (N := 46) hx hb hts iG_X10 hown hK hP 0 rfl rfl 42 (by decide) (hts _ w_1234) (fun _ h9 => h9) rfl dX10_row_36 ?_
          refine lv_iload_n hx hb dX10_row_39 rfl (lv_at hl 1 rfl) ?_
          refine lv_iload_n hx hb dX10_row_40 rfl (lv_at hl 3 rfl) ?_
          refine va_iast hx hb hK hP hD hS 1 0 rfl rfl (ix_in hp0 (by omega) (by omega)) dX10_row_41 (fun H locs hP hD hS => ?_)
          obtain ⟨f20, qf20⟩ : ∃ g, g = upd o_f42 p0.toNatClampNeg p2 := ⟨_, rfl⟩
          rw [← qf20] at hP hD
          have hi21 : ai f20 4 (-1) 60 := by rw [qf20]; exact ai_put ha_o_f42 hp2 (by omega) (by omega)
          have hP : va_P G vwCl [(h0, oX10 b o_thrown o_taped o_size o_at o_from o_token o_value o_faultKind o_faultPlace o_lawNow o_walkSet o_oneWidow o_oneTurn o_askWorst o_mayWalk o_oftenAll o_oftenRoad o_oftenPegs), (b 42, .inl (cI, 4, .inl f20)), (b 43, .inl (cI, 4, .inl o_f43)), (b 44, .inl (cJ, 240, .inr (.inl o_f44)))] H := hP
          have hD : va_D A [(h0, oX10 b o_thrown o_taped o_size o_at o_from o_token o_value o_faultKind o_faultPlace o_lawNow o_walkSet o_oneWidow o_oneTurn o_askWorst o_mayWalk o_oftenAll o_oftenRoad o_oftenPegs), (b 42, .inl (cI, 4, .inl f20)), (b 43, .inl (cI, 4, .inl o_f43)), (b 44, .inl (cJ, 240, .inr (.inl o_f44)))] := hD
          refine lv_aload_n hx hb dX10_row_42 rfl (lv_at hl 0 rfl) ?_
          refine va_get (D := G) (ci := 10) (v := .ref (b 43)) (C := RX10) (T := TX10) (N := 46) hx hb hts iG_X10 hown hK hP 0 rfl rfl 43 (by decide) (hts _ w_1235) (fun _ h9 => h9) rfl dX10_row_43 ?_
          refine lv_iload_n hx hb dX10_row_46 rfl (lv_at hl 1 rfl) ?_
          refine lv_iload_n hx hb dX10_row_47 rfl (lv_at hl 2 rfl) ?_
          refine va_iast hx hb hK hP hD hS 2 0 rfl rfl (ix_in hp0 (by omega) (by omega)) dX10_row_48 (fun H locs hP hD hS => ?_)
          obtain ⟨f22, qf22⟩ : ∃ g, g = upd o_f43 p0.toNatClampNeg p1 := ⟨_, rfl⟩
          rw [← qf22] at hP hD
          have hP : va_P G vwCl [(h0, oX10 b o_thrown o_taped o_size o_at o_from o_token o_value o_faultKind o_faultPlace o_lawNow o_walkSet o_oneWidow o_oneTurn o_askWorst o_mayWalk o_oftenAll o_oftenRoad o_oftenPegs), (b 42, .inl (cI, 4, .inl f20)), (b 43, .inl (cI, 4, .inl f22)), (b 44, .inl (cJ, 240, .inr (.inl o_f44)))] H := hP
          have hD : va_D A [(h0, oX10 b o_thrown o_taped o_size o_at o_from o_token o_value o_faultKind o_faultPlace o_lawNow o_walkSet o_oneWidow o_oneTurn o_askWorst o_mayWalk o_oftenAll o_oftenRoad o_oftenPegs), (b 42, .inl (cI, 4, .inl f20)), (b 43, .inl (cI, 4, .inl f22)), (b 44, .inl (cJ, 240, .inr (.inl o_f44)))] := hD
          refine lv_iconst (v := 0) hx hb dX10_row_49 (by decide) ?_
          refine lv_istore (lv' := [(4, .int 0), (0, .ref h0), (1, .int p0), (2, .int p1), (3, .int p2)]) hx hb dX10_row_50 hl (by decide) rfl (fun ls hl => ?_)
          have lp23 : ∀ (n24 : Nat) (x25 : Int32) (g26 : Nat → Int64), 0 ≤ x25.toInt → x25.toInt ≤ 60 → 60 - x25.toInt < (n24 : Int) → ∀ (H : Heap) (locs : List Loc), va_P G vwCl [(h0, oX10 b o_thrown o_taped o_size o_at o_from o_token o_value o_faultKind o_faultPlace o_lawNow o_walkSet o_oneWidow o_oneTurn o_askWorst o_mayWalk o_oftenAll o_oftenRoad o_oftenPegs), (b 42, .inl (cI, 4, .inl f20)), (b 43, .inl (cI, 4, .inl f22)), (b 44, .inl (cJ, 240, .inr (.inl g26)))] H → va_D A [(h0, oX10 b o_thrown o_taped o_size o_at o_from o_token o_value o_faultKind o_faultPlace o_lawNow o_walkSet o_oneWidow o_oneTurn o_askWorst o_mayWalk o_oftenAll o_oftenRoad o_oftenPegs), (b 42, .inl (cI, 4, .inl f20)), (b 43, .inl (cI, 4, .inl f22)), (b 44, .inl (cJ, 240, .inr (.inl g26)))] → va_S A s.heap H locs → ∀ (ls : Array Slot), lv_has ls 5 [(4, .int x25), (0, .ref h0), (1, .int p0), (2, .int p1), (3, .int p2)] → W p l e ({ frames := 2, cells := 0, slots := 0, locals := 45 } : Room) s m ([.ref h0, .int p0, .int p1, .int p2] : List Value).toArray below meth c H locs 0 0 Q (F0 m 52 ls []) := by
            intro n24
            induction n24 with
            | zero =>
              intro x25 g26 k27 k28 mm30
              exact absurd mm30 (by have q9 := fb_rng x25; omega)
            | succ n24 ih29 =>
              intro x25 g26 k27 k28 mm30 H locs hP hD hS ls hl
              refine lv_iload hx hb dX10_row_52 (lv_at hl 0 rfl) ?_
              refine lv_bipush (v := 60) hx hb dX10_row_54 (by decide) ?_
              refine lv_icmp_ge (tgt := 78) hx hb dX10_row_56 (by decide) (fun c31 => ?_) (fun c31 => ?_)
              · have c31 := i_le ki_60 rfl c31
                refine lv_iconst (v := 0) hx hb dX10_row_78 (by decide) ?_
                exact hret _ _ _ _ 0 (f20, f22, g26) hP hD hS dX10_row_79 (show ai f20 4 (-1) 60 ∧ ((0 : Int32) = (if p0.toInt < 0 ∨ 3 < p0.toInt ∨ p1.toInt < 0 ∨ 3 < p1.toInt ∨ 60 < p2.toInt then -2 else if p2.toInt < 0 then -3 else 0)) ∧ (((0 : Int32) = 0 ∧ 0 ≤ p0.toInt ∧ p0.toInt ≤ 3 ∧ 0 ≤ p2.toInt ∧ p2.toInt ≤ 60 ∧ f20 = upd o_f42 p0.toNatClampNeg p2 ∧ f22 = upd o_f43 p0.toNatClampNeg p1) ∨ (¬ (0 : Int32) = 0 ∧ f20 = o_f42 ∧ f22 = o_f43)) from ⟨hi21, (by (repeat' split) <;> first | rfl | (exfalso; omega)), (Or.inl ⟨rfl, by omega, by omega, by omega, by omega, qf20, qf22⟩)⟩)
              · have c31 := i_nle ki_60 rfl c31
                refine lv_aload_n hx hb dX10_row_59 rfl (lv_at hl 1 rfl) ?_
                refine va_get (D := G) (ci := 10) (v := .ref (b 44)) (C := RX10) (T := TX10) (N := 46) hx hb hts iG_X10 hown hK hP 0 rfl rfl 44 (by decide) (hts _ w_1236) (fun _ h9 => h9) rfl dX10_row_60 ?_
                refine lv_bipush (v := 60) hx hb dX10_row_63 (by decide) ?_
                refine lv_iload_n hx hb dX10_row_65 rfl (lv_at hl 2 rfl) ?_
                refine lv_imul hx hb dX10_row_66 ?_
                refine lv_topi (fun v32 ev32 => ?_)
                have tv32 : v32.toInt = 60 * a0 := ti_mul ki_60 hp0 ev32 (by omega) (by omega)
                refine lv_iload hx hb dX10_row_67 (lv_at hl 0 rfl) ?_
                refine lv_iadd hx hb dX10_row_69 ?_
                refine lv_topi (fun v33 ev33 => ?_)
                have tv33 : v33.toInt = 60 * a0 + x25.toInt := ti_add tv32 rfl ev33 (by omega) (by omega)
                refine lv_lconst (v := 0) hx hb dX10_row_70 (by decide) ?_
                refine va_last hx hb hK hP hD hS 3 1 rfl rfl (ix_in tv33 (by omega) (by omega)) dX10_row_71 (fun H locs hP hD hS => ?_)
                obtain ⟨f34, qf34⟩ : ∃ g, g = vp_updL g26 v33.toNatClampNeg (0 : Int64) := ⟨_, rfl⟩
                rw [← qf34] at hP hD
                have hP : va_P G vwCl [(h0, oX10 b o_thrown o_taped o_size o_at o_from o_token o_value o_faultKind o_faultPlace o_lawNow o_walkSet o_oneWidow o_oneTurn o_askWorst o_mayWalk o_oftenAll o_oftenRoad o_oftenPegs), (b 42, .inl (cI, 4, .inl f20)), (b 43, .inl (cI, 4, .inl f22)), (b 44, .inl (cJ, 240, .inr (.inl f34)))] H := hP
                have hD : va_D A [(h0, oX10 b o_thrown o_taped o_size o_at o_from o_token o_value o_faultKind o_faultPlace o_lawNow o_walkSet o_oneWidow o_oneTurn o_askWorst o_mayWalk o_oftenAll o_oftenRoad o_oftenPegs), (b 42, .inl (cI, 4, .inl f20)), (b 43, .inl (cI, 4, .inl f22)), (b 44, .inl (cJ, 240, .inr (.inl f34)))] := hD
                obtain ⟨v35, ev35⟩ : ∃ y : Int32, y = x25 + 1 := ⟨_, rfl⟩
                have tv35 : v35.toInt = x25.toInt + 1 := ti_add rfl ki_1 ev35 (by omega) (by omega)
                refine lv_iinc (v := v35) (lv' := [(4, .int v35), (0, .ref h0), (1, .int p0), (2, .int p1), (3, .int p2)]) hx hb dX10_row_72 hl (k := 0) rfl (by rw [ev35]; rfl) (by decide) rfl (fun ls hl => ?_)
                refine lv_goto (tgt := 52) hx hb dX10_row_75 (by decide) ?_
                exact ih29 v35 f34 (by omega) (by omega) (by omega) _ _ hP hD hS ls (lv_sub hl [0, 1, 2, 3, 4] rfl)
          exact lp23 61 0 o_f44 (by rw [ki_0]; decide) (by rw [ki_0]; decide) (by rw [ki_0]; decide) _ _ hP hD hS ls (lv_sub hl [0, 1, 2, 3, 4] rfl)
        · have c19 := i_nle ki_0 hp2 c19
          refine lv_bipush (v := (-3)) hx hb dX10_row_32 (by decide) ?_
          exact hret _ _ _ _ (-3) (o_f42, o_f43, o_f44) hP hD hS dX10_row_34 (show ai o_f42 4 (-1) 60 ∧ (((-3) : Int32) = (if p0.toInt < 0 ∨ 3 < p0.toInt ∨ p1.toInt < 0 ∨ 3 < p1.toInt ∨ 60 < p2.toInt then -2 else if p2.toInt < 0 then -3 else 0)) ∧ ((((-3) : Int32) = 0 ∧ 0 ≤ p0.toInt ∧ p0.toInt ≤ 3 ∧ 0 ≤ p2.toInt ∧ p2.toInt ≤ 60 ∧ o_f42 = upd o_f42 p0.toNatClampNeg p2 ∧ o_f43 = upd o_f43 p0.toNatClampNeg p1) ∨ (¬ ((-3) : Int32) = 0 ∧ o_f42 = o_f42 ∧ o_f43 = o_f43)) from ⟨ha_o_f42, (by (repeat' split) <;> first | rfl | (exfalso; omega)), (Or.inr ⟨by decide, rfl, rfl⟩)⟩)
      · have c18 := i_nle hp2 ki_60 c18
        refine lv_bipush (v := (-2)) hx hb dX10_row_25 (by decide) ?_
        exact hret _ _ _ _ (-2) (o_f42, o_f43, o_f44) hP hD hS dX10_row_27 (show ai o_f42 4 (-1) 60 ∧ (((-2) : Int32) = (if p0.toInt < 0 ∨ 3 < p0.toInt ∨ p1.toInt < 0 ∨ 3 < p1.toInt ∨ 60 < p2.toInt then -2 else if p2.toInt < 0 then -3 else 0)) ∧ ((((-2) : Int32) = 0 ∧ 0 ≤ p0.toInt ∧ p0.toInt ≤ 3 ∧ 0 ≤ p2.toInt ∧ p2.toInt ≤ 60 ∧ o_f42 = upd o_f42 p0.toNatClampNeg p2 ∧ o_f43 = upd o_f43 p0.toNatClampNeg p1) ∨ (¬ ((-2) : Int32) = 0 ∧ o_f42 = o_f42 ∧ o_f43 = o_f43)) from ⟨ha_o_f42, (by (repeat' split) <;> first | rfl | (exfalso; omega)), (Or.inr ⟨by decide, rfl, rfl⟩)⟩)
    · skip
      refine lv_if_eq (tgt := 25) hx hb dX10_row_16 (by decide) (fun c36 => ?_) (fun c36 => absurd (by decide) c36)
      refine lv_bipush (v := (-2)) hx hb dX10_row_25 (by decide) ?_
      exact hret _ _ _ _ (-2) (o_f42, o_f43, o_f44) hP hD hS dX10_row_27 (show ai o_f42 4 (-1) 60 ∧ (((-2) : Int32) = (if p0.toInt < 0 ∨ 3 < p0.toInt ∨ p1.toInt < 0 ∨ 3 < p1.toInt ∨ 60 < p2.toInt then -2 else if p2.toInt < 0 then -3 else 0)) ∧ ((((-2) : Int32) = 0 ∧ 0 ≤ p0.toInt ∧ p0.toInt ≤ 3 ∧ 0 ≤ p2.toInt ∧ p2.toInt ≤ 60 ∧ o_f42 = upd o_f42 p0.toNatClampNeg p2 ∧ o_f43 = upd o_f43 p0.toNatClampNeg p1) ∨ (¬ ((-2) : Int32) = 0 ∧ o_f42 = o_f42 ∧ o_f43 = o_f43)) from ⟨ha_o_f42, (by (repeat' split) <;> first | rfl | (exfalso; omega)), (Or.inr ⟨by decide, rfl, rfl⟩)⟩)
  · skip
    refine lv_if_eq (tgt := 25) hx hb dX10_row_4 (by decide) (fun c37 => ?_) (fun c37 => absurd (by decide) c37)
    refine lv_bipush (v := (-2)) hx hb dX10_row_25 (by decide) ?_
    exact hret _ _ _ _ (-2) (o_f42, o_f43, o_f44) hP hD hS dX10_row_27 (show ai o_f42 4 (-1) 60 ∧ (((-2) : Int32) = (if p0.toInt < 0 ∨ 3 < p0.toInt ∨ p1.toInt < 0 ∨ 3 < p1.toInt ∨ 60 < p2.toInt then -2 else if p2.toInt < 0 then -3 else 0)) ∧ ((((-2) : Int32) = 0 ∧ 0 ≤ p0.toInt ∧ p0.toInt ≤ 3 ∧ 0 ≤ p2.toInt ∧ p2.toInt ≤ 60 ∧ o_f42 = upd o_f42 p0.toNatClampNeg p2 ∧ o_f43 = upd o_f43 p0.toNatClampNeg p1) ∨ (¬ ((-2) : Int32) = 0 ∧ o_f42 = o_f42 ∧ o_f43 = o_f43)) from ⟨ha_o_f42, (by (repeat' split) <;> first | rfl | (exfalso; omega)), (Or.inr ⟨by decide, rfl, rfl⟩)⟩)
set_option maxHeartbeats 4000000 in
set_option maxRecDepth 100000 in
theorem f_X10_write (l : Launch) (G : va_G) (cI cJ cZ cB cQ : ClassId) (sz : Nat) (h0 : Nat) (p0 : Int32) (a0 : Int) (p1 : Int32) (a1 : Int) (p2 : Int64) (a2 : Int) (b : Nat → Nat) (o_thrown : Int32) (o_taped : Int32) (o_size : Int32) (o_at : Int32) (o_from : Int32) (o_token : Int32) (o_value : Int32) (o_faultKind : Int32) (o_faultPlace : Int32) (o_lawNow : Int32) (o_walkSet : Int32) (o_oneWidow : Int32) (o_oneTurn : Int32) (o_askWorst : Int32) (o_mayWalk : Int32) (o_oftenAll : Int64) (o_oftenRoad : Int64) (o_oftenPegs : Int64) (o_f42 : Nat → Int32) (o_f43 : Nat → Int32) (o_f44 : Nat → Int64) (hp0 : p0.toInt = a0) (hp1 : p1.toInt = a1) (hp2 : p2.toInt = a2) (hl_o_taped : 0 ≤ o_taped.toInt) (hh_o_taped : o_taped.toInt ≤ 900) (hl_o_size : 0 ≤ o_size.toInt) (hh_o_size : o_size.toInt ≤ 900) (hl_o_at : 0 ≤ o_at.toInt) (hh_o_at : o_at.toInt ≤ 900) (hl_o_from : 0 ≤ o_from.toInt) (hh_o_from : o_from.toInt ≤ 900) (hl_o_oneTurn : 0 ≤ o_oneTurn.toInt) (hh_o_oneTurn : o_oneTurn.toInt ≤ 4) (ha_o_f42 : ai o_f42 4 (-1) 60) : CI l yX10_write (wl_ yX10_write cX10_write 5 (some .int)) ({ frames := 2, cells := 0, slots := 0, locals := 45 } : Room) G (TY cI cJ cZ cB cQ) [.ref h0, .int p0, .int p1, .long p2] [(h0, oX10 b o_thrown o_taped o_size o_at o_from o_token o_value o_faultKind o_faultPlace o_lawNow o_walkSet o_oneWidow o_oneTurn o_askWorst o_mayWalk o_oftenAll o_oftenRoad o_oftenPegs), (b 42, .inl (cI, 4, .inl o_f42)), (b 43, .inl (cI, 4, .inl o_f43)), (b 44, .inl (cJ, 240, .inr (.inl o_f44)))] sz (fun (r : Int32) (u : (Nat → Int64)) => (r = (if p0.toInt < 0 ∨ 3 < p0.toInt then -2 else if (o_f42 p0.toNatClampNeg).toInt = -1 then -6 else if p1.toInt < 0 ∨ (o_f42 p0.toNatClampNeg).toInt ≤ p1.toInt then -7 else 0))) (fun u : (Nat → Int64) => [(h0, oX10 b o_thrown o_taped o_size o_at o_from o_token o_value o_faultKind o_faultPlace o_lawNow o_walkSet o_oneWidow o_oneTurn o_askWorst o_mayWalk o_oftenAll o_oftenRoad o_oftenPegs), (b 42, .inl (cI, 4, .inl o_f42)), (b 43, .inl (cI, 4, .inl o_f43)), (b 44, .inl (cJ, 240, .inr (.inl u)))]) 0 0 := by
  refine CI.go (cc := cX10_write) (maxL := 5) (ret := (some .int)) (by decide) rfl (Nat.le_of_ble_eq_true rfl) ?_
  intro p e s m below meth c A ls Q hBd hret
  obtain ⟨hx, hb, hr, hml, hts, hown, hlk, hnm, hP, hK, hD, hA, hZ, hl⟩ := hBd
  have hown : s.vm.findClass RX10 = some m.cls := hown
  have hl : lv_has ls 5 [(0, .ref h0), (1, .int p0), (2, .int p1), (3, .long p2)] := hl
  have hS : va_S A s.heap s.heap [] := va_S.rf
  refine lv_iload_n hx hb dX10_write_0 rfl (lv_at hl 1 rfl) ?_
  refine k_i (wc := []) (wr := [(h0, oX10 b o_thrown o_taped o_size o_at o_from o_token o_value o_faultKind o_faultPlace o_lawNow o_walkSet o_oneWidow o_oneTurn o_askWorst o_mayWalk o_oftenAll o_oftenRoad o_oftenPegs), (b 42, .inl (cI, 4, .inl o_f42)), (b 43, .inl (cI, 4, .inl o_f43)), (b 44, .inl (cJ, 240, .inr (.inl o_f44)))]) hP hD hS hA [] [0, 1, 2, 3] rfl rfl rfl (by decide) (va_runS (As := [.int p0]) (rest := []) ⟨hx, hb, hml, hown, hts⟩ (f_X10_isSlot l G cI cJ cZ cB cQ _ p0 a0 hp0) (va_cwS 1 hts (gS w_1816 w_1817 w_11 w_1818) rfl rfl rfl hd_X10_isSlot ⟨Nat.le_of_ble_eq_true rfl, Nat.le_of_ble_eq_true rfl⟩) (mS hK hZ hP hD [] rfl rfl [.int p0]) rfl rfl hl.1 rfl (lv_room (Nat.le_of_ble_eq_true rfl)) dX10_write_1 ⟨Nat.le_of_ble_eq_true rfl, Nat.le_of_ble_eq_true rfl⟩) (fun r1 u2 H locs hw3 hP hD hS => ?_)
  try dsimp only at hw3
  have hP : va_P G vwCl [(h0, oX10 b o_thrown o_taped o_size o_at o_from o_token o_value o_faultKind o_faultPlace o_lawNow o_walkSet o_oneWidow o_oneTurn o_askWorst o_mayWalk o_oftenAll o_oftenRoad o_oftenPegs), (b 42, .inl (cI, 4, .inl o_f42)), (b 43, .inl (cI, 4, .inl o_f43)), (b 44, .inl (cJ, 240, .inr (.inl o_f44)))] H := hP
  have hD : va_D A [(h0, oX10 b o_thrown o_taped o_size o_at o_from o_token o_value o_faultKind o_faultPlace o_lawNow o_walkSet o_oneWidow o_oneTurn o_askWorst o_mayWalk o_oftenAll o_oftenRoad o_oftenPegs), (b 42, .inl (cI, 4, .inl o_f42)), (b 43, .inl (cI, 4, .inl o_f43)), (b 44, .inl (cJ, 240, .inr (.inl o_f44)))] := hD
  rcases hw3 with ⟨rfl, a5, a6⟩ | ⟨rfl, a7⟩
  · skip
    refine lv_if_ne (tgt := 10) hx hb dX10_write_4 (by decide) (fun c8 => ?_) (fun c8 => absurd c8 (by decide))
    refine lv_aload_n hx hb dX10_write_10 rfl (lv_at hl 0 rfl) ?_
    refine va_get (D := G) (ci := 10) (v := .ref (b 42)) (C := RX10) (T := TX10) (N := 46) hx hb hts iG_X10 hown hK hP 0 rfl rfl 42 (by decide) (hts _ w_1234) (fun _ h9 => h9) rfl dX10_write_11 ?_
    refine lv_iload_n hx hb dX10_write_14 rfl (lv_at hl 1 rfl) ?_
    refine va_iald hx hb hK hP 1 0 rfl rfl (ix_in hp0 (by omega) (by omega)) dX10_write_15 ?_
    refine lv_topi (fun v9 ev9 => ?_)
    obtain ⟨ia10, ib11⟩ := ai_get ha_o_f42 hp0 (by omega) (by omega) ev9
    have lkv9 : v9.toInt = (o_f42 p0.toNatClampNeg).toInt := by rw [ev9]
    refine lv_iconst (v := (-1)) hx hb dX10_write_16 (by decide) ?_
    refine lv_icmp_ne (tgt := 23) hx hb dX10_write_17 (by decide) (fun c12 => ?_) (fun c12 => ?_)
    · have c12 := i_ne rfl ki_m1 c12
      refine lv_iload_n hx hb dX10_write_23 rfl (lv_at hl 2 rfl) ?_
      obtain ⟨v13, ev13⟩ : ∃ y : Int64, p1.toInt64 = y := ⟨_, rfl⟩
      have tv13 : v13.toInt = a1 := ti_wide hp1 ev13
      refine lv_i2l (v := v13) hx hb dX10_write_24 ev13 ?_
      refine lv_lconst (v := 0) hx hb dX10_write_25 (by decide) ?_
      refine lv_aload_n hx hb dX10_write_26 rfl (lv_at hl 0 rfl) ?_
      refine va_get (D := G) (ci := 10) (v := .ref (b 42)) (C := RX10) (T := TX10) (N := 46) hx hb hts iG_X10 hown hK hP 0 rfl rfl 42 (by decide) (hts _ w_1234) (fun _ h9 => h9) rfl dX10_write_27 ?_
      refine lv_iload_n hx hb dX10_write_30 rfl (lv_at hl 1 rfl) ?_
      refine va_iald hx hb hK hP 1 0 rfl rfl (ix_in hp0 (by omega) (by omega)) dX10_write_31 ?_
      refine lv_topi (fun v14 ev14 => ?_)
      obtain ⟨ia15, ib16⟩ := ai_get ha_o_f42 hp0 (by omega) (by omega) ev14
      have lkv14 : v14.toInt = (o_f42 p0.toNatClampNeg).toInt := by rw [ev14]
      refine lv_iconst (v := 1) hx hb dX10_write_32 (by decide) ?_
      refine lv_isub hx hb dX10_write_33 ?_
      refine lv_topi (fun v17 ev17 => ?_)
      have tv17 : v17.toInt = v14.toInt - 1 := ti_sub rfl ki_1 ev17 (by omega) (by omega)
      obtain ⟨v18, ev18⟩ : ∃ y : Int64, v17.toInt64 = y := ⟨_, rfl⟩
      have tv18 : v18.toInt = v14.toInt - 1 := ti_wide tv17 ev18
      refine lv_i2l (v := v18) hx hb dX10_write_34 ev18 ?_
      refine k_i (wc := []) (wr := [(h0, oX10 b o_thrown o_taped o_size o_at o_from o_token o_value o_faultKind o_faultPlace o_lawNow o_walkSet o_oneWidow o_oneTurn o_askWorst o_mayWalk o_oftenAll o_oftenRoad o_oftenPegs), (b 42, .inl (cI, 4, .inl o_f42)), (b 43, .inl (cI, 4, .inl o_f43)), (b 44, .inl (cJ, 240, .inr (.inl o_f44)))]) hP hD hS hA [] [0, 1, 2, 3] rfl rfl rfl (by decide) (va_runS (As := [.long v13, .long 0, .long v18]) (rest := []) ⟨hx, hb, hml, hown, hts⟩ (f_X10_in l G cI cJ cZ cB cQ _ v13 a1 0 0 v18 (v14.toInt - 1) tv13 kl_0 tv18) (va_cwS 3 hts (gS w_1336 w_1337 w_11 w_1338) rfl rfl rfl hd_X10_in ⟨Nat.le_of_ble_eq_true rfl, Nat.le_of_ble_eq_true rfl⟩) (mS hK hZ hP hD [] rfl rfl [.long v13, .long 0, .long v18]) rfl rfl hl.1 rfl (lv_room (Nat.le_of_ble_eq_true rfl)) dX10_write_35 ⟨Nat.le_of_ble_eq_true rfl, Nat.le_of_ble_eq_true rfl⟩) (fun r19 u20 H locs hw21 hP hD hS => ?_)
      try dsimp only at hw21
      have hP : va_P G vwCl [(h0, oX10 b o_thrown o_taped o_size o_at o_from o_token o_value o_faultKind o_faultPlace o_lawNow o_walkSet o_oneWidow o_oneTurn o_askWorst o_mayWalk o_oftenAll o_oftenRoad o_oftenPegs), (b 42, .inl (cI, 4, .inl o_f42)), (b 43, .inl (cI, 4, .inl o_f43)), (b 44, .inl (cJ, 240, .inr (.inl o_f44)))] H := hP
      have hD : va_D A [(h0, oX10 b o_thrown o_taped o_size o_at o_from o_token o_value o_faultKind o_faultPlace o_lawNow o_walkSet o_oneWidow o_oneTurn o_askWorst o_mayWalk o_oftenAll o_oftenRoad o_oftenPegs), (b 42, .inl (cI, 4, .inl o_f42)), (b 43, .inl (cI, 4, .inl o_f43)), (b 44, .inl (cJ, 240, .inr (.inl o_f44)))] := hD
      rcases hw21 with ⟨rfl, a23, a24⟩ | ⟨rfl, a25⟩
      · skip
        refine lv_if_ne (tgt := 44) hx hb dX10_write_38 (by decide) (fun c26 => ?_) (fun c26 => absurd c26 (by decide))
        refine lv_aload_n hx hb dX10_write_44 rfl (lv_at hl 0 rfl) ?_
        refine va_get (D := G) (ci := 10) (v := .ref (b 44)) (C := RX10) (T := TX10) (N := 46) hx hb hts iG_X10 hown hK hP 0 rfl rfl 44 (by decide) (hts _ w_1236) (fun _ h9 => h9) rfl dX10_write_45 ?_
        refine lv_bipush (v := 60) hx hb dX10_write_48 (by decide) ?_
        refine lv_iload_n hx hb dX10_write_50 rfl (lv_at hl 1 rfl) ?_
        refine lv_imul hx hb dX10_write_51 ?_
        refine lv_topi (fun v27 ev27 => ?_)
        have tv27 : v27.toInt = 60 * a0 := ti_mul ki_60 hp0 ev27 (by omega) (by omega)
        refine lv_iload_n hx hb dX10_write_52 rfl (lv_at hl 2 rfl) ?_
        refine lv_iadd hx hb dX10_write_53 ?_
        refine lv_topi (fun v28 ev28 => ?_)
        have tv28 : v28.toInt = 60 * a0 + a1 := ti_add tv27 hp1 ev28 (by omega) (by omega)
        refine lv_lload_n hx hb dX10_write_54 rfl (lv_at hl 3 rfl) ?_
        refine lv_aload_n hx hb dX10_write_55 rfl (lv_at hl 0 rfl) ?_
        refine va_get (D := G) (ci := 10) (v := .ref (b 43)) (C := RX10) (T := TX10) (N := 46) hx hb hts iG_X10 hown hK hP 0 rfl rfl 43 (by decide) (hts _ w_1235) (fun _ h9 => h9) rfl dX10_write_56 ?_
        refine lv_iload_n hx hb dX10_write_59 rfl (lv_at hl 1 rfl) ?_
        refine va_iald hx hb hK hP 2 0 rfl rfl (ix_in hp0 (by omega) (by omega)) dX10_write_60 ?_
        refine lv_topi (fun v29 ev29 => ?_)
        have lkv29 : v29.toInt = (o_f43 p0.toNatClampNeg).toInt := by rw [ev29]
        refine k_l (wc := []) (wr := [(h0, oX10 b o_thrown o_taped o_size o_at o_from o_token o_value o_faultKind o_faultPlace o_lawNow o_walkSet o_oneWidow o_oneTurn o_askWorst o_mayWalk o_oftenAll o_oftenRoad o_oftenPegs), (b 42, .inl (cI, 4, .inl o_f42)), (b 43, .inl (cI, 4, .inl o_f43)), (b 44, .inl (cJ, 240, .inr (.inl o_f44)))]) hP hD hS hA [] [0, 1, 2, 3] rfl rfl rfl (by decide) (va_runS (As := [.long p2, .int v29]) (rest := [.int v28, .ref (b 44)]) ⟨hx, hb, hml, hown, hts⟩ (f_X10_clipped l G cI cJ cZ cB cQ _ p2 a2 v29 v29.toInt hp2 rfl) (va_cwS 2 hts (gS w_1982 w_1983 w_11 w_1984) rfl rfl rfl hd_X10_clipped ⟨Nat.le_of_ble_eq_true rfl, Nat.le_of_ble_eq_true rfl⟩) (mS hK hZ hP hD [] rfl rfl [.long p2, .int v29]) rfl rfl hl.1 rfl (lv_room (Nat.le_of_ble_eq_true rfl)) dX10_write_61 ⟨Nat.le_of_ble_eq_true rfl, Nat.le_of_ble_eq_true rfl⟩) (fun r30 u31 H locs hw32 hP hD hS => ?_)
        try dsimp only at hw32
        have hP : va_P G vwCl [(h0, oX10 b o_thrown o_taped o_size o_at o_from o_token o_value o_faultKind o_faultPlace o_lawNow o_walkSet o_oneWidow o_oneTurn o_askWorst o_mayWalk o_oftenAll o_oftenRoad o_oftenPegs), (b 42, .inl (cI, 4, .inl o_f42)), (b 43, .inl (cI, 4, .inl o_f43)), (b 44, .inl (cJ, 240, .inr (.inl o_f44)))] H := hP
        have hD : va_D A [(h0, oX10 b o_thrown o_taped o_size o_at o_from o_token o_value o_faultKind o_faultPlace o_lawNow o_walkSet o_oneWidow o_oneTurn o_askWorst o_mayWalk o_oftenAll o_oftenRoad o_oftenPegs), (b 42, .inl (cI, 4, .inl o_f42)), (b 43, .inl (cI, 4, .inl o_f43)), (b 44, .inl (cJ, 240, .inr (.inl o_f44)))] := hD
        refine va_last hx hb hK hP hD hS 3 1 rfl rfl (ix_in tv28 (by omega) (by omega)) dX10_write_64 (fun H locs hP hD hS => ?_)
        obtain ⟨f33, qf33⟩ : ∃ g, g = vp_updL o_f44 v28.toNatClampNeg r30 := ⟨_, rfl⟩
        rw [← qf33] at hP hD
        have hP : va_P G vwCl [(h0, oX10 b o_thrown o_taped o_size o_at o_from o_token o_value o_faultKind o_faultPlace o_lawNow o_walkSet o_oneWidow o_oneTurn o_askWorst o_mayWalk o_oftenAll o_oftenRoad o_oftenPegs), (b 42, .inl (cI, 4, .inl o_f42)), (b 43, .inl (cI, 4, .inl o_f43)), (b 44, .inl (cJ, 240, .inr (.inl f33)))] H := hP
        have hD : va_D A [(h0, oX10 b o_thrown o_taped o_size o_at o_from o_token o_value o_faultKind o_faultPlace o_lawNow o_walkSet o_oneWidow o_oneTurn o_askWorst o_mayWalk o_oftenAll o_oftenRoad o_oftenPegs), (b 42, .inl (cI, 4, .inl o_f42)), (b 43, .inl (cI, 4, .inl o_f43)), (b 44, .inl (cJ, 240, .inr (.inl f33)))] := hD
        refine lv_iconst (v := 0) hx hb dX10_write_65 (by decide) ?_
        exact hret _ _ _ _ 0 f33 hP hD hS dX10_write_66 (show ((0 : Int32) = (if p0.toInt < 0 ∨ 3 < p0.toInt then -2 else if (o_f42 p0.toNatClampNeg).toInt = -1 then -6 else if p1.toInt < 0 ∨ (o_f42 p0.toNatClampNeg).toInt ≤ p1.toInt then -7 else 0)) from (by (repeat' split) <;> first | rfl | (exfalso; omega)))
      · skip
        refine lv_if_ne (tgt := 44) hx hb dX10_write_38 (by decide) (fun c34 => absurd (by decide) c34) (fun c34 => ?_)
        refine lv_bipush (v := (-7)) hx hb dX10_write_41 (by decide) ?_
        exact hret _ _ _ _ (-7) o_f44 hP hD hS dX10_write_43 (show (((-7) : Int32) = (if p0.toInt < 0 ∨ 3 < p0.toInt then -2 else if (o_f42 p0.toNatClampNeg).toInt = -1 then -6 else if p1.toInt < 0 ∨ (o_f42 p0.toNatClampNeg).toInt ≤ p1.toInt then -7 else 0)) from (by (repeat' split) <;> first | rfl | (exfalso; omega)))
    · have c12 := i_eq rfl ki_m1 c12
      refine lv_bipush (v := (-6)) hx hb dX10_write_20 (by decide) ?_
      exact hret _ _ _ _ (-6) o_f44 hP hD hS dX10_write_22 (show (((-6) : Int32) = (if p0.toInt < 0 ∨ 3 < p0.toInt then -2 else if (o_f42 p0.toNatClampNeg).toInt = -1 then -6 else if p1.toInt < 0 ∨ (o_f42 p0.toNatClampNeg).toInt ≤ p1.toInt then -7 else 0)) from (by (repeat' split) <;> first | rfl | (exfalso; omega)))
  · skip
    refine lv_if_ne (tgt := 10) hx hb dX10_write_4 (by decide) (fun c35 => absurd (by decide) c35) (fun c35 => ?_)
    refine lv_bipush (v := (-2)) hx hb dX10_write_7 (by decide) ?_
    exact hret _ _ _ _ (-2) o_f44 hP hD hS dX10_write_9 (show (((-2) : Int32) = (if p0.toInt < 0 ∨ 3 < p0.toInt then -2 else if (o_f42 p0.toNatClampNeg).toInt = -1 then -6 else if p1.toInt < 0 ∨ (o_f42 p0.toNatClampNeg).toInt ≤ p1.toInt then -7 else 0)) from (by (repeat' split) <;> first | rfl | (exfalso; omega)))
set_option maxHeartbeats 4000000 in
set_option maxRecDepth 100000 in
theorem f_X10_paste (l : Launch) (G : va_G) (cI cJ cZ cB cQ : ClassId) (sz : Nat) (h0 : Nat) (p0 : Int32) (a0 : Int) (p1 : Int32) (a1 : Int) (p2 : Int32) (a2 : Int) (p3 : Int32) (a3 : Int) (p4 : Int32) (a4 : Int) (b : Nat → Nat) (o_thrown : Int32) (o_taped : Int32) (o_size : Int32) (o_at : Int32) (o_from : Int32) (o_token : Int32) (o_value : Int32) (o_faultKind : Int32) (o_faultPlace : Int32) (o_lawNow : Int32) (o_walkSet : Int32) (o_oneWidow : Int32) (o_oneTurn : Int32) (o_askWorst : Int32) (o_mayWalk : Int32) (o_oftenAll : Int64) (o_oftenRoad : Int64) (o_oftenPegs : Int64) (o_f42 : Nat → Int32) (o_f43 : Nat → Int32) (o_f44 : Nat → Int64) (o_f45 : Nat → Int64) (hp0 : p0.toInt = a0) (hp1 : p1.toInt = a1) (hp2 : p2.toInt = a2) (hp3 : p3.toInt = a3) (hp4 : p4.toInt = a4) (hl_o_taped : 0 ≤ o_taped.toInt) (hh_o_taped : o_taped.toInt ≤ 900) (hl_o_size : 0 ≤ o_size.toInt) (hh_o_size : o_size.toInt ≤ 900) (hl_o_at : 0 ≤ o_at.toInt) (hh_o_at : o_at.toInt ≤ 900) (hl_o_from : 0 ≤ o_from.toInt) (hh_o_from : o_from.toInt ≤ 900) (hl_o_oneTurn : 0 ≤ o_oneTurn.toInt) (hh_o_oneTurn : o_oneTurn.toInt ≤ 4) (ha_o_f42 : ai o_f42 4 (-1) 60) : CI l yX10_paste (wl_ yX10_paste cX10_paste 7 (some .int)) ({ frames := 2, cells := 0, slots := 0, locals := 45 } : Room) G (TY cI cJ cZ cB cQ) [.ref h0, .int p0, .int p1, .int p2, .int p3, .int p4] [(h0, oX10 b o_thrown o_taped o_size o_at o_from o_token o_value o_faultKind o_faultPlace o_lawNow o_walkSet o_oneWidow o_oneTurn o_askWorst o_mayWalk o_oftenAll o_oftenRoad o_oftenPegs), (b 42, .inl (cI, 4, .inl o_f42)), (b 43, .inl (cI, 4, .inl o_f43)), (b 44, .inl (cJ, 240, .inr (.inl o_f44))), (b 45, .inl (cJ, 60, .inr (.inl o_f45)))] sz (fun (r : Int32) (u : (Nat → Int64) × (Nat → Int64)) => (r = (if p0.toInt < 0 ∨ 3 < p0.toInt ∨ p2.toInt < 0 ∨ 3 < p2.toInt then -2 else if (o_f42 p0.toNatClampNeg).toInt = -1 ∨ (o_f42 p2.toNatClampNeg).toInt = -1 then -6 else if ¬ (o_f43 p0.toNatClampNeg).toInt = (o_f43 p2.toNatClampNeg).toInt then -8 else if p1.toInt < 0 ∨ p3.toInt < 0 ∨ p4.toInt < 0 ∨ (o_f42 p0.toNatClampNeg).toInt < p1.toInt + p4.toInt ∨ (o_f42 p2.toNatClampNeg).toInt < p3.toInt + p4.toInt then -7 else 0))) (fun u : (Nat → Int64) × (Nat → Int64) => [(h0, oX10 b o_thrown o_taped o_size o_at o_from o_token o_value o_faultKind o_faultPlace o_lawNow o_walkSet o_oneWidow o_oneTurn o_askWorst o_mayWalk o_oftenAll o_oftenRoad o_oftenPegs), (b 42, .inl (cI, 4, .inl o_f42)), (b 43, .inl (cI, 4, .inl o_f43)), (b 44, .inl (cJ, 240, .inr (.inl u.1))), (b 45, .inl (cJ, 60, .inr (.inl u.2)))]) 0 0 := by
  refine CI.go (cc := cX10_paste) (maxL := 7) (ret := (some .int)) (by decide) rfl (Nat.le_of_ble_eq_true rfl) ?_
  intro p e s m below meth c A ls Q hBd hret
  obtain ⟨hx, hb, hr, hml, hts, hown, hlk, hnm, hP, hK, hD, hA, hZ, hl⟩ := hBd
  have hown : s.vm.findClass RX10 = some m.cls := hown
  have hl : lv_has ls 7 [(0, .ref h0), (1, .int p0), (2, .int p1), (3, .int p2), (4, .int p3), (5, .int p4)] := hl
  have hS : va_S A s.heap s.heap [] := va_S.rf
  refine lv_iload_n hx hb dX10_paste_0 rfl (lv_at hl 1 rfl) ?_
  refine k_i (wc := []) (wr := [(h0, oX10 b o_thrown o_taped o_size o_at o_from o_token o_value o_faultKind o_faultPlace o_lawNow o_walkSet o_oneWidow o_oneTurn o_askWorst o_mayWalk o_oftenAll o_oftenRoad o_oftenPegs), (b 42, .inl (cI, 4, .inl o_f42)), (b 43, .inl (cI, 4, .inl o_f43)), (b 44, .inl (cJ, 240, .inr (.inl o_f44))), (b 45, .inl (cJ, 60, .inr (.inl o_f45)))]) hP hD hS hA [] [0, 1, 2, 3, 4] rfl rfl rfl (by decide) (va_runS (As := [.int p0]) (rest := []) ⟨hx, hb, hml, hown, hts⟩ (f_X10_isSlot l G cI cJ cZ cB cQ _ p0 a0 hp0) (va_cwS 1 hts (gS w_1816 w_1817 w_11 w_1818) rfl rfl rfl hd_X10_isSlot ⟨Nat.le_of_ble_eq_true rfl, Nat.le_of_ble_eq_true rfl⟩) (mS hK hZ hP hD [] rfl rfl [.int p0]) rfl rfl hl.1 rfl (lv_room (Nat.le_of_ble_eq_true rfl)) dX10_paste_1 ⟨Nat.le_of_ble_eq_true rfl, Nat.le_of_ble_eq_true rfl⟩) (fun r1 u2 H locs hw3 hP hD hS => ?_)
  try dsimp only at hw3
  have hP : va_P G vwCl [(h0, oX10 b o_thrown o_taped o_size o_at o_from o_token o_value o_faultKind o_faultPlace o_lawNow o_walkSet o_oneWidow o_oneTurn o_askWorst o_mayWalk o_oftenAll o_oftenRoad o_oftenPegs), (b 42, .inl (cI, 4, .inl o_f42)), (b 43, .inl (cI, 4, .inl o_f43)), (b 44, .inl (cJ, 240, .inr (.inl o_f44))), (b 45, .inl (cJ, 60, .inr (.inl o_f45)))] H := hP
  have hD : va_D A [(h0, oX10 b o_thrown o_taped o_size o_at o_from o_token o_value o_faultKind o_faultPlace o_lawNow o_walkSet o_oneWidow o_oneTurn o_askWorst o_mayWalk o_oftenAll o_oftenRoad o_oftenPegs), (b 42, .inl (cI, 4, .inl o_f42)), (b 43, .inl (cI, 4, .inl o_f43)), (b 44, .inl (cJ, 240, .inr (.inl o_f44))), (b 45, .inl (cJ, 60, .inr (.inl o_f45)))] := hD
  rcases hw3 with ⟨rfl, a5, a6⟩ | ⟨rfl, a7⟩
  · skip
    refine lv_if_eq (tgt := 14) hx hb dX10_paste_4 (by decide) (fun c8 => absurd c8 (by decide)) (fun c8 => ?_)
    refine lv_iload_n hx hb dX10_paste_7 rfl (lv_at hl 3 rfl) ?_
    refine k_i (wc := []) (wr := [(h0, oX10 b o_thrown o_taped o_size o_at o_from o_token o_value o_faultKind o_faultPlace o_lawNow o_walkSet o_oneWidow o_oneTurn o_askWorst o_mayWalk o_oftenAll o_oftenRoad o_oftenPegs), (b 42, .inl (cI, 4, .inl o_f42)), (b 43, .inl (cI, 4, .inl o_f43)), (b 44, .inl (cJ, 240, .inr (.inl o_f44))), (b 45, .inl (cJ, 60, .inr (.inl o_f45)))]) hP hD hS hA [] [0, 1, 2, 3, 4] rfl rfl rfl (by decide) (va_runS (As := [.int p2]) (rest := []) ⟨hx, hb, hml, hown, hts⟩ (f_X10_isSlot l G cI cJ cZ cB cQ _ p2 a2 hp2) (va_cwS 1 hts (gS w_1816 w_1817 w_11 w_1818) rfl rfl rfl hd_X10_isSlot ⟨Nat.le_of_ble_eq_true rfl, Nat.le_of_ble_eq_true rfl⟩) (mS hK hZ hP hD [] rfl rfl [.int p2]) rfl rfl hl.1 rfl (lv_room (Nat.le_of_ble_eq_true rfl)) dX10_paste_8 ⟨Nat.le_of_ble_eq_true rfl, Nat.le_of_ble_eq_true rfl⟩) (fun r9 u10 H locs hw11 hP hD hS => ?_)
    try dsimp only at hw11
    have hP : va_P G vwCl [(h0, oX10 b o_thrown o_taped o_size o_at o_from o_token o_value o_faultKind o_faultPlace o_lawNow o_walkSet o_oneWidow o_oneTurn o_askWorst o_mayWalk o_oftenAll o_oftenRoad o_oftenPegs), (b 42, .inl (cI, 4, .inl o_f42)), (b 43, .inl (cI, 4, .inl o_f43)), (b 44, .inl (cJ, 240, .inr (.inl o_f44))), (b 45, .inl (cJ, 60, .inr (.inl o_f45)))] H := hP
    have hD : va_D A [(h0, oX10 b o_thrown o_taped o_size o_at o_from o_token o_value o_faultKind o_faultPlace o_lawNow o_walkSet o_oneWidow o_oneTurn o_askWorst o_mayWalk o_oftenAll o_oftenRoad o_oftenPegs), (b 42, .inl (cI, 4, .inl o_f42)), (b 43, .inl (cI, 4, .inl o_f43)), (b 44, .inl (cJ, 240, .inr (.inl o_f44))), (b 45, .inl (cJ, 60, .inr (.inl o_f45)))] := hD
    rcases hw11 with ⟨rfl, a13, a14⟩ | ⟨rfl, a15⟩
    · skip
      refine lv_if_ne (tgt := 17) hx hb dX10_paste_11 (by decide) (fun c16 => ?_) (fun c16 => absurd c16 (by decide))
      refine lv_aload_n hx hb dX10_paste_17 rfl (lv_at hl 0 rfl) ?_
      refine va_get (D := G) (ci := 10) (v := .ref (b 42)) (C := RX10) (T := TX10) (N := 46) hx hb hts iG_X10 hown hK hP 0 rfl rfl 42 (by decide) (hts _ w_1234) (fun _ h9 => h9) rfl dX10_paste_18 ?_
      refine lv_iload_n hx hb dX10_paste_21 rfl (lv_at hl 1 rfl) ?_
      refine va_iald hx hb hK hP 1 0 rfl rfl (ix_in hp0 (by omega) (by omega)) dX10_paste_22 ?_
      refine lv_topi (fun v17 ev17 => ?_)
      obtain ⟨ia18, ib19⟩ := ai_get ha_o_f42 hp0 (by omega) (by omega) ev17
      have lkv17 : v17.toInt = (o_f42 p0.toNatClampNeg).toInt := by rw [ev17]
      refine lv_iconst (v := (-1)) hx hb dX10_paste_23 (by decide) ?_
      refine lv_icmp_eq (tgt := 37) hx hb dX10_paste_24 (by decide) (fun c20 => ?_) (fun c20 => ?_)
      · have c20 := i_eq rfl ki_m1 c20
        refine lv_bipush (v := (-6)) hx hb dX10_paste_37 (by decide) ?_
        exact hret _ _ _ _ (-6) (o_f44, o_f45) hP hD hS dX10_paste_39 (show (((-6) : Int32) = (if p0.toInt < 0 ∨ 3 < p0.toInt ∨ p2.toInt < 0 ∨ 3 < p2.toInt then -2 else if (o_f42 p0.toNatClampNeg).toInt = -1 ∨ (o_f42 p2.toNatClampNeg).toInt = -1 then -6 else if ¬ (o_f43 p0.toNatClampNeg).toInt = (o_f43 p2.toNatClampNeg).toInt then -8 else if p1.toInt < 0 ∨ p3.toInt < 0 ∨ p4.toInt < 0 ∨ (o_f42 p0.toNatClampNeg).toInt < p1.toInt + p4.toInt ∨ (o_f42 p2.toNatClampNeg).toInt < p3.toInt + p4.toInt then -7 else 0)) from (by (repeat' split) <;> first | rfl | (exfalso; omega)))
      · have c20 := i_ne rfl ki_m1 c20
        refine lv_aload_n hx hb dX10_paste_27 rfl (lv_at hl 0 rfl) ?_
        refine va_get (D := G) (ci := 10) (v := .ref (b 42)) (C := RX10) (T := TX10) (N := 46) hx hb hts iG_X10 hown hK hP 0 rfl rfl 42 (by decide) (hts _ w_1234) (fun _ h9 => h9) rfl dX10_paste_28 ?_
        refine lv_iload_n hx hb dX10_paste_31 rfl (lv_at hl 3 rfl) ?_
        refine va_iald hx hb hK hP 1 0 rfl rfl (ix_in hp2 (by omega) (by omega)) dX10_paste_32 ?_
        refine lv_topi (fun v21 ev21 => ?_)
        obtain ⟨ia22, ib23⟩ := ai_get ha_o_f42 hp2 (by omega) (by omega) ev21
        have lkv21 : v21.toInt = (o_f42 p2.toNatClampNeg).toInt := by rw [ev21]
        refine lv_iconst (v := (-1)) hx hb dX10_paste_33 (by decide) ?_
        refine lv_icmp_ne (tgt := 40) hx hb dX10_paste_34 (by decide) (fun c24 => ?_) (fun c24 => ?_)
        · have c24 := i_ne rfl ki_m1 c24
          refine lv_aload_n hx hb dX10_paste_40 rfl (lv_at hl 0 rfl) ?_
          refine va_get (D := G) (ci := 10) (v := .ref (b 43)) (C := RX10) (T := TX10) (N := 46) hx hb hts iG_X10 hown hK hP 0 rfl rfl 43 (by decide) (hts _ w_1235) (fun _ h9 => h9) rfl dX10_paste_41 ?_
          refine lv_iload_n hx hb dX10_paste_44 rfl (lv_at hl 1 rfl) ?_
          refine va_iald hx hb hK hP 2 0 rfl rfl (ix_in hp0 (by omega) (by omega)) dX10_paste_45 ?_
          refine lv_topi (fun v25 ev25 => ?_)
          have lkv25 : v25.toInt = (o_f43 p0.toNatClampNeg).toInt := by rw [ev25]
          refine lv_aload_n hx hb dX10_paste_46 rfl (lv_at hl 0 rfl) ?_
          refine va_get (D := G) (ci := 10) (v := .ref (b 43)) (C := RX10) (T := TX10) (N := 46) hx hb hts iG_X10 hown hK hP 0 rfl rfl 43 (by decide) (hts _ w_1235) (fun _ h9 => h9) rfl dX10_paste_47 ?_
          refine lv_iload_n hx hb dX10_paste_50 rfl (lv_at hl 3 rfl) ?_
          refine va_iald hx hb hK hP 2 0 rfl rfl (ix_in hp2 (by omega) (by omega)) dX10_paste_51 ?_
          refine lv_topi (fun v26 ev26 => ?_)
          have lkv26 : v26.toInt = (o_f43 p2.toNatClampNeg).toInt := by rw [ev26]
          refine lv_icmp_eq (tgt := 58) hx hb dX10_paste_52 (by decide) (fun c27 => ?_) (fun c27 => ?_)
          · have c27 := i_eq rfl rfl c27
            refine lv_iload_n hx hb dX10_paste_58 rfl (lv_at hl 2 rfl) ?_
            refine lv_if_lt (tgt := 107) hx hb dX10_paste_59 (by decide) (fun c28 => ?_) (fun c28 => ?_)
            · have c28 := i_lt hp1 ki_0 c28
              refine lv_bipush (v := (-7)) hx hb dX10_paste_107 (by decide) ?_
              exact hret _ _ _ _ (-7) (o_f44, o_f45) hP hD hS dX10_paste_109 (show (((-7) : Int32) = (if p0.toInt < 0 ∨ 3 < p0.toInt ∨ p2.toInt < 0 ∨ 3 < p2.toInt then -2 else if (o_f42 p0.toNatClampNeg).toInt = -1 ∨ (o_f42 p2.toNatClampNeg).toInt = -1 then -6 else if ¬ (o_f43 p0.toNatClampNeg).toInt = (o_f43 p2.toNatClampNeg).toInt then -8 else if p1.toInt < 0 ∨ p3.toInt < 0 ∨ p4.toInt < 0 ∨ (o_f42 p0.toNatClampNeg).toInt < p1.toInt + p4.toInt ∨ (o_f42 p2.toNatClampNeg).toInt < p3.toInt + p4.toInt then -7 else 0)) from (by (repeat' split) <;> first | rfl | (exfalso; omega)))
            · have c28 := i_nlt hp1 ki_0 c28
              refine lv_iload hx hb dX10_paste_62 (lv_at hl 4 rfl) ?_
              refine lv_if_lt (tgt := 107) hx hb dX10_paste_64 (by decide) (fun c29 => ?_) (fun c29 => ?_)
              · have c29 := i_lt hp3 ki_0 c29
                refine lv_bipush (v := (-7)) hx hb dX10_paste_107 (by decide) ?_
                exact hret _ _ _ _ (-7) (o_f44, o_f45) hP hD hS dX10_paste_109 (show (((-7) : Int32) = (if p0.toInt < 0 ∨ 3 < p0.toInt ∨ p2.toInt < 0 ∨ 3 < p2.toInt then -2 else if (o_f42 p0.toNatClampNeg).toInt = -1 ∨ (o_f42 p2.toNatClampNeg).toInt = -1 then -6 else if ¬ (o_f43 p0.toNatClampNeg).toInt = (o_f43 p2.toNatClampNeg).toInt then -8 else if p1.toInt < 0 ∨ p3.toInt < 0 ∨ p4.toInt < 0 ∨ (o_f42 p0.toNatClampNeg).toInt < p1.toInt + p4.toInt ∨ (o_f42 p2.toNatClampNeg).toInt < p3.toInt + p4.toInt then -7 else 0)) from (by (repeat' split) <;> first | rfl | (exfalso; omega)))
              · have c29 := i_nlt hp3 ki_0 c29
                refine lv_iload hx hb dX10_paste_67 (lv_at hl 5 rfl) ?_
                refine lv_if_lt (tgt := 107) hx hb dX10_paste_69 (by decide) (fun c30 => ?_) (fun c30 => ?_)
                · have c30 := i_lt hp4 ki_0 c30
                  refine lv_bipush (v := (-7)) hx hb dX10_paste_107 (by decide) ?_
                  exact hret _ _ _ _ (-7) (o_f44, o_f45) hP hD hS dX10_paste_109 (show (((-7) : Int32) = (if p0.toInt < 0 ∨ 3 < p0.toInt ∨ p2.toInt < 0 ∨ 3 < p2.toInt then -2 else if (o_f42 p0.toNatClampNeg).toInt = -1 ∨ (o_f42 p2.toNatClampNeg).toInt = -1 then -6 else if ¬ (o_f43 p0.toNatClampNeg).toInt = (o_f43 p2.toNatClampNeg).toInt then -8 else if p1.toInt < 0 ∨ p3.toInt < 0 ∨ p4.toInt < 0 ∨ (o_f42 p0.toNatClampNeg).toInt < p1.toInt + p4.toInt ∨ (o_f42 p2.toNatClampNeg).toInt < p3.toInt + p4.toInt then -7 else 0)) from (by (repeat' split) <;> first | rfl | (exfalso; omega)))
                · have c30 := i_nlt hp4 ki_0 c30
                  refine lv_iload_n hx hb dX10_paste_72 rfl (lv_at hl 2 rfl) ?_
                  obtain ⟨v31, ev31⟩ : ∃ y : Int64, p1.toInt64 = y := ⟨_, rfl⟩
                  have tv31 : v31.toInt = a1 := ti_wide hp1 ev31
                  refine lv_i2l (v := v31) hx hb dX10_paste_73 ev31 ?_
                  refine lv_iload hx hb dX10_paste_74 (lv_at hl 5 rfl) ?_
                  obtain ⟨v32, ev32⟩ : ∃ y : Int64, p4.toInt64 = y := ⟨_, rfl⟩
                  have tv32 : v32.toInt = a4 := ti_wide hp4 ev32
                  refine lv_i2l (v := v32) hx hb dX10_paste_76 ev32 ?_
                  refine lv_ladd hx hb dX10_paste_77 ?_
                  refine lv_topl (fun v33 ev33 => ?_)
                  have tv33 : v33.toInt = a1 + a4 := tl_add tv31 tv32 ev33 (by have q1 := fb_rng p1; have q3 := fb_rng p3; have q4 := fb_rng p4; omega) (by have q1 := fb_rng p1; have q3 := fb_rng p3; have q4 := fb_rng p4; omega)
                  refine lv_aload_n hx hb dX10_paste_78 rfl (lv_at hl 0 rfl) ?_
                  refine va_get (D := G) (ci := 10) (v := .ref (b 42)) (C := RX10) (T := TX10) (N := 46) hx hb hts iG_X10 hown hK hP 0 rfl rfl 42 (by decide) (hts _ w_1234) (fun _ h9 => h9) rfl dX10_paste_79 ?_
                  refine lv_iload_n hx hb dX10_paste_82 rfl (lv_at hl 1 rfl) ?_
                  refine va_iald hx hb hK hP 1 0 rfl rfl (ix_in hp0 (by omega) (by omega)) dX10_paste_83 ?_
                  refine lv_topi (fun v34 ev34 => ?_)
                  obtain ⟨ia35, ib36⟩ := ai_get ha_o_f42 hp0 (by omega) (by omega) ev34
                  have lkv34 : v34.toInt = (o_f42 p0.toNatClampNeg).toInt := by rw [ev34]
                  obtain ⟨v37, ev37⟩ : ∃ y : Int64, v34.toInt64 = y := ⟨_, rfl⟩
                  have tv37 : v37.toInt = v34.toInt := ti_wide rfl ev37
                  refine lv_i2l (v := v37) hx hb dX10_paste_84 ev37 ?_
                  refine W.lcmp hx hb dX10_paste_85 ?_
                  refine lv_if_gt (tgt := 107) hx hb dX10_paste_86 (by decide) (fun c38 => ?_) (fun c38 => ?_)
                  · have c38 := c_gt tv33 tv37 c38
                    refine lv_bipush (v := (-7)) hx hb dX10_paste_107 (by decide) ?_
                    exact hret _ _ _ _ (-7) (o_f44, o_f45) hP hD hS dX10_paste_109 (show (((-7) : Int32) = (if p0.toInt < 0 ∨ 3 < p0.toInt ∨ p2.toInt < 0 ∨ 3 < p2.toInt then -2 else if (o_f42 p0.toNatClampNeg).toInt = -1 ∨ (o_f42 p2.toNatClampNeg).toInt = -1 then -6 else if ¬ (o_f43 p0.toNatClampNeg).toInt = (o_f43 p2.toNatClampNeg).toInt then -8 else if p1.toInt < 0 ∨ p3.toInt < 0 ∨ p4.toInt < 0 ∨ (o_f42 p0.toNatClampNeg).toInt < p1.toInt + p4.toInt ∨ (o_f42 p2.toNatClampNeg).toInt < p3.toInt + p4.toInt then -7 else 0)) from (by (repeat' split) <;> first | rfl | (exfalso; omega)))
                  · have c38 := c_ngt tv33 tv37 c38
                    refine lv_iload hx hb dX10_paste_89 (lv_at hl 4 rfl) ?_
                    obtain ⟨v39, ev39⟩ : ∃ y : Int64, p3.toInt64 = y := ⟨_, rfl⟩
                    have tv39 : v39.toInt = a3 := ti_wide hp3 ev39
                    refine lv_i2l (v := v39) hx hb dX10_paste_91 ev39 ?_
                    refine lv_iload hx hb dX10_paste_92 (lv_at hl 5 rfl) ?_
                    obtain ⟨v40, ev40⟩ : ∃ y : Int64, p4.toInt64 = y := ⟨_, rfl⟩
                    have tv40 : v40.toInt = a4 := ti_wide hp4 ev40
                    refine lv_i2l (v := v40) hx hb dX10_paste_94 ev40 ?_
                    refine lv_ladd hx hb dX10_paste_95 ?_
                    refine lv_topl (fun v41 ev41 => ?_)
                    have tv41 : v41.toInt = a3 + a4 := tl_add tv39 tv40 ev41 (by have q1 := fb_rng p1; have q3 := fb_rng p3; have q4 := fb_rng p4; omega) (by have q1 := fb_rng p1; have q3 := fb_rng p3; have q4 := fb_rng p4; omega)
                    refine lv_aload_n hx hb dX10_paste_96 rfl (lv_at hl 0 rfl) ?_
                    refine va_get (D := G) (ci := 10) (v := .ref (b 42)) (C := RX10) (T := TX10) (N := 46) hx hb hts iG_X10 hown hK hP 0 rfl rfl 42 (by decide) (hts _ w_1234) (fun _ h9 => h9) rfl dX10_paste_97 ?_
                    refine lv_iload_n hx hb dX10_paste_100 rfl (lv_at hl 3 rfl) ?_
                    refine va_iald hx hb hK hP 1 0 rfl rfl (ix_in hp2 (by omega) (by omega)) dX10_paste_101 ?_
                    refine lv_topi (fun v42 ev42 => ?_)
                    obtain ⟨ia43, ib44⟩ := ai_get ha_o_f42 hp2 (by omega) (by omega) ev42
                    have lkv42 : v42.toInt = (o_f42 p2.toNatClampNeg).toInt := by rw [ev42]
                    obtain ⟨v45, ev45⟩ : ∃ y : Int64, v42.toInt64 = y := ⟨_, rfl⟩
                    have tv45 : v45.toInt = v42.toInt := ti_wide rfl ev45
                    refine lv_i2l (v := v45) hx hb dX10_paste_102 ev45 ?_
                    refine W.lcmp hx hb dX10_paste_103 ?_
                    refine lv_if_le (tgt := 110) hx hb dX10_paste_104 (by decide) (fun c46 => ?_) (fun c46 => ?_)
                    · have c46 := c_le tv41 tv45 c46
                      refine lv_iconst (v := 0) hx hb dX10_paste_110 (by decide) ?_
                      refine lv_istore (lv' := [(6, .int 0), (0, .ref h0), (1, .int p0), (2, .int p1), (3, .int p2), (4, .int p3), (5, .int p4)]) hx hb dX10_paste_111 hl (by decide) rfl (fun ls hl => ?_)
                      have lp47 : ∀ (n48 : Nat) (x49 : Int32) (g50 : Nat → Int64), 0 ≤ x49.toInt → x49.toInt ≤ 60 → 60 - x49.toInt < (n48 : Int) → ∀ (H : Heap) (locs : List Loc), va_P G vwCl [(h0, oX10 b o_thrown o_taped o_size o_at o_from o_token o_value o_faultKind o_faultPlace o_lawNow o_walkSet o_oneWidow o_oneTurn o_askWorst o_mayWalk o_oftenAll o_oftenRoad o_oftenPegs), (b 42, .inl (cI, 4, .inl o_f42)), (b 43, .inl (cI, 4, .inl o_f43)), (b 44, .inl (cJ, 240, .inr (.inl o_f44))), (b 45, .inl (cJ, 60, .inr (.inl g50)))] H → va_D A [(h0, oX10 b o_thrown o_taped o_size o_at o_from o_token o_value o_faultKind o_faultPlace o_lawNow o_walkSet o_oneWidow o_oneTurn o_askWorst o_mayWalk o_oftenAll o_oftenRoad o_oftenPegs), (b 42, .inl (cI, 4, .inl o_f42)), (b 43, .inl (cI, 4, .inl o_f43)), (b 44, .inl (cJ, 240, .inr (.inl o_f44))), (b 45, .inl (cJ, 60, .inr (.inl g50)))] → va_S A s.heap H locs → ∀ (ls : Array Slot), lv_has ls 7 [(6, .int x49), (0, .ref h0), (1, .int p0), (2, .int p1), (3, .int p2), (4, .int p3), (5, .int p4)] → W p l e ({ frames := 2, cells := 0, slots := 0, locals := 45 } : Room) s m ([.ref h0, .int p0, .int p1, .int p2, .int p3, .int p4] : List Value).toArray below meth c H locs 0 0 Q (F0 m 113 ls []) := by
                        intro n48
                        induction n48 with
                        | zero =>
                          intro x49 g50 k51 k52 mm54
                          exact absurd mm54 (by have q9 := fb_rng x49; omega)
                        | succ n48 ih53 =>
                          intro x49 g50 k51 k52 mm54 H locs hP hD hS ls hl
                          refine lv_iload hx hb dX10_paste_113 (lv_at hl 0 rfl) ?_
                          refine lv_iload hx hb dX10_paste_115 (lv_at hl 6 rfl) ?_
                          refine lv_icmp_ge (tgt := 147) hx hb dX10_paste_117 (by decide) (fun c55 => ?_) (fun c55 => ?_)
                          · have c55 := i_le hp4 rfl c55
                            refine lv_iconst (v := 0) hx hb dX10_paste_147 (by decide) ?_
                            refine lv_istore (lv' := [(6, .int 0), (0, .ref h0), (1, .int p0), (2, .int p1), (3, .int p2), (4, .int p3), (5, .int p4)]) hx hb dX10_paste_148 hl (by decide) rfl (fun ls hl => ?_)
                            have lp56 : ∀ (n57 : Nat) (x58 : Int32) (g59 : Nat → Int64), 0 ≤ x58.toInt → x58.toInt ≤ 60 → 60 - x58.toInt < (n57 : Int) → ∀ (H : Heap) (locs : List Loc), va_P G vwCl [(h0, oX10 b o_thrown o_taped o_size o_at o_from o_token o_value o_faultKind o_faultPlace o_lawNow o_walkSet o_oneWidow o_oneTurn o_askWorst o_mayWalk o_oftenAll o_oftenRoad o_oftenPegs), (b 42, .inl (cI, 4, .inl o_f42)), (b 43, .inl (cI, 4, .inl o_f43)), (b 44, .inl (cJ, 240, .inr (.inl g59))), (b 45, .inl (cJ, 60, .inr (.inl g50)))] H → va_D A [(h0, oX10 b o_thrown o_taped o_size o_at o_from o_token o_value o_faultKind o_faultPlace o_lawNow o_walkSet o_oneWidow o_oneTurn o_askWorst o_mayWalk o_oftenAll o_oftenRoad o_oftenPegs), (b 42, .inl (cI, 4, .inl o_f42)), (b 43, .inl (cI, 4, .inl o_f43)), (b 44, .inl (cJ, 240, .inr (.inl g59))), (b 45, .inl (cJ, 60, .inr (.inl g50)))] → va_S A s.heap H locs → ∀ (ls : Array Slot), lv_has ls 7 [(6, .int x58), (0, .ref h0), (1, .int p0), (2, .int p1), (3, .int p2), (4, .int p3), (5, .int p4)] → W p l e ({ frames := 2, cells := 0, slots := 0, locals := 45 } : Room) s m ([.ref h0, .int p0, .int p1, .int p2, .int p3, .int p4] : List Value).toArray below meth c H locs 0 0 Q (F0 m 150 ls []) := by
                              intro n57
                              induction n57 with
                              | zero =>
                                intro x58 g59 k60 k61 mm63
                                exact absurd mm63 (by have q9 := fb_rng x58; omega)
                              | succ n57 ih62 =>
                                intro x58 g59 k60 k61 mm63 H locs hP hD hS ls hl
                                refine lv_iload hx hb dX10_paste_150 (lv_at hl 0 rfl) ?_
                                refine lv_iload hx hb dX10_paste_152 (lv_at hl 6 rfl) ?_
                                refine lv_icmp_ge (tgt := 185) hx hb dX10_paste_154 (by decide) (fun c64 => ?_) (fun c64 => ?_)
                                · have c64 := i_le hp4 rfl c64
                                  refine lv_iconst (v := 0) hx hb dX10_paste_185 (by decide) ?_
                                  exact hret _ _ _ _ 0 (g59, g50) hP hD hS dX10_paste_186 (show ((0 : Int32) = (if p0.toInt < 0 ∨ 3 < p0.toInt ∨ p2.toInt < 0 ∨ 3 < p2.toInt then -2 else if (o_f42 p0.toNatClampNeg).toInt = -1 ∨ (o_f42 p2.toNatClampNeg).toInt = -1 then -6 else if ¬ (o_f43 p0.toNatClampNeg).toInt = (o_f43 p2.toNatClampNeg).toInt then -8 else if p1.toInt < 0 ∨ p3.toInt < 0 ∨ p4.toInt < 0 ∨ (o_f42 p0.toNatClampNeg).toInt < p1.toInt + p4.toInt ∨ (o_f42 p2.toNatClampNeg).toInt < p3.toInt + p4.toInt then -7 else 0)) from (by (repeat' split) <;> first | rfl | (exfalso; omega)))
                                · have c64 := i_nle hp4 rfl c64
                                  refine lv_aload_n hx hb dX10_paste_157 rfl (lv_at hl 1 rfl) ?_
                                  refine va_get (D := G) (ci := 10) (v := .ref (b 44)) (C := RX10) (T := TX10) (N := 46) hx hb hts iG_X10 hown hK hP 0 rfl rfl 44 (by decide) (hts _ w_1236) (fun _ h9 => h9) rfl dX10_paste_158 ?_
                                  refine lv_bipush (v := 60) hx hb dX10_paste_161 (by decide) ?_
                                  refine lv_iload_n hx hb dX10_paste_163 rfl (lv_at hl 4 rfl) ?_
                                  refine lv_imul hx hb dX10_paste_164 ?_
                                  refine lv_topi (fun v65 ev65 => ?_)
                                  have tv65 : v65.toInt = 60 * a2 := ti_mul ki_60 hp2 ev65 (by omega) (by omega)
                                  refine lv_iload hx hb dX10_paste_165 (lv_at hl 5 rfl) ?_
                                  refine lv_iadd hx hb dX10_paste_167 ?_
                                  refine lv_topi (fun v66 ev66 => ?_)
                                  have tv66 : v66.toInt = 60 * a2 + a3 := ti_add tv65 hp3 ev66 (by omega) (by omega)
                                  refine lv_iload hx hb dX10_paste_168 (lv_at hl 0 rfl) ?_
                                  refine lv_iadd hx hb dX10_paste_170 ?_
                                  refine lv_topi (fun v67 ev67 => ?_)
                                  have tv67 : v67.toInt = 60 * a2 + a3 + x58.toInt := ti_add tv66 rfl ev67 (by omega) (by omega)
                                  refine lv_aload_n hx hb dX10_paste_171 rfl (lv_at hl 1 rfl) ?_
                                  refine va_get (D := G) (ci := 10) (v := .ref (b 45)) (C := RX10) (T := TX10) (N := 46) hx hb hts iG_X10 hown hK hP 0 rfl rfl 45 (by decide) (hts _ w_1237) (fun _ h9 => h9) rfl dX10_paste_172 ?_
                                  refine lv_iload hx hb dX10_paste_175 (lv_at hl 0 rfl) ?_
                                  refine va_lald hx hb hK hP 4 1 rfl rfl (ix_in rfl (by omega) (by omega)) dX10_paste_177 ?_
                                  refine lv_topl (fun v68 ev68 => ?_)
                                  have lkv68 : v68.toInt = (g50 x58.toNatClampNeg).toInt := by rw [ev68]
                                  refine va_last hx hb hK hP hD hS 3 1 rfl rfl (ix_in tv67 (by omega) (by omega)) dX10_paste_178 (fun H locs hP hD hS => ?_)
                                  obtain ⟨f69, qf69⟩ : ∃ g, g = vp_updL g59 v67.toNatClampNeg v68 := ⟨_, rfl⟩
                                  rw [← qf69] at hP hD
                                  have hP : va_P G vwCl [(h0, oX10 b o_thrown o_taped o_size o_at o_from o_token o_value o_faultKind o_faultPlace o_lawNow o_walkSet o_oneWidow o_oneTurn o_askWorst o_mayWalk o_oftenAll o_oftenRoad o_oftenPegs), (b 42, .inl (cI, 4, .inl o_f42)), (b 43, .inl (cI, 4, .inl o_f43)), (b 44, .inl (cJ, 240, .inr (.inl f69))), (b 45, .inl (cJ, 60, .inr (.inl g50)))] H := hP
                                  have hD : va_D A [(h0, oX10 b o_thrown o_taped o_size o_at o_from o_token o_value o_faultKind o_faultPlace o_lawNow o_walkSet o_oneWidow o_oneTurn o_askWorst o_mayWalk o_oftenAll o_oftenRoad o_oftenPegs), (b 42, .inl (cI, 4, .inl o_f42)), (b 43, .inl (cI, 4, .inl o_f43)), (b 44, .inl (cJ, 240, .inr (.inl f69))), (b 45, .inl (cJ, 60, .inr (.inl g50)))] := hD
                                  obtain ⟨v70, ev70⟩ : ∃ y : Int32, y = x58 + 1 := ⟨_, rfl⟩
                                  have tv70 : v70.toInt = x58.toInt + 1 := ti_add rfl ki_1 ev70 (by omega) (by omega)
                                  refine lv_iinc (v := v70) (lv' := [(6, .int v70), (0, .ref h0), (1, .int p0), (2, .int p1), (3, .int p2), (4, .int p3), (5, .int p4)]) hx hb dX10_paste_179 hl (k := 0) rfl (by rw [ev70]; rfl) (by decide) rfl (fun ls hl => ?_)
                                  refine lv_goto (tgt := 150) hx hb dX10_paste_182 (by decide) ?_
                                  exact ih62 v70 f69 (by omega) (by omega) (by omega) _ _ hP hD hS ls (lv_sub hl [0, 1, 2, 3, 4, 5, 6] rfl)
                            exact lp56 61 0 o_f44 (by rw [ki_0]; decide) (by rw [ki_0]; decide) (by rw [ki_0]; decide) _ _ hP hD hS ls (lv_sub hl [0, 1, 2, 3, 4, 5, 6] rfl)
                          · have c55 := i_nle hp4 rfl c55
                            refine lv_aload_n hx hb dX10_paste_120 rfl (lv_at hl 1 rfl) ?_
                            refine va_get (D := G) (ci := 10) (v := .ref (b 45)) (C := RX10) (T := TX10) (N := 46) hx hb hts iG_X10 hown hK hP 0 rfl rfl 45 (by decide) (hts _ w_1237) (fun _ h9 => h9) rfl dX10_paste_121 ?_
                            refine lv_iload hx hb dX10_paste_124 (lv_at hl 0 rfl) ?_
                            refine lv_aload_n hx hb dX10_paste_126 rfl (lv_at hl 1 rfl) ?_
                            refine va_get (D := G) (ci := 10) (v := .ref (b 44)) (C := RX10) (T := TX10) (N := 46) hx hb hts iG_X10 hown hK hP 0 rfl rfl 44 (by decide) (hts _ w_1236) (fun _ h9 => h9) rfl dX10_paste_127 ?_
                            refine lv_bipush (v := 60) hx hb dX10_paste_130 (by decide) ?_
                            refine lv_iload_n hx hb dX10_paste_132 rfl (lv_at hl 2 rfl) ?_
                            refine lv_imul hx hb dX10_paste_133 ?_
                            refine lv_topi (fun v71 ev71 => ?_)
                            have tv71 : v71.toInt = 60 * a0 := ti_mul ki_60 hp0 ev71 (by omega) (by omega)
                            refine lv_iload_n hx hb dX10_paste_134 rfl (lv_at hl 3 rfl) ?_
                            refine lv_iadd hx hb dX10_paste_135 ?_
                            refine lv_topi (fun v72 ev72 => ?_)
                            have tv72 : v72.toInt = 60 * a0 + a1 := ti_add tv71 hp1 ev72 (by omega) (by omega)
                            refine lv_iload hx hb dX10_paste_136 (lv_at hl 0 rfl) ?_
                            refine lv_iadd hx hb dX10_paste_138 ?_
                            refine lv_topi (fun v73 ev73 => ?_)
                            have tv73 : v73.toInt = 60 * a0 + a1 + x49.toInt := ti_add tv72 rfl ev73 (by omega) (by omega)
                            refine va_lald hx hb hK hP 3 1 rfl rfl (ix_in tv73 (by omega) (by omega)) dX10_paste_139 ?_
                            refine lv_topl (fun v74 ev74 => ?_)
                            have lkv74 : v74.toInt = (o_f44 v73.toNatClampNeg).toInt := by rw [ev74]
                            refine va_last hx hb hK hP hD hS 4 1 rfl rfl (ix_in rfl (by omega) (by omega)) dX10_paste_140 (fun H locs hP hD hS => ?_)
                            obtain ⟨f75, qf75⟩ : ∃ g, g = vp_updL g50 x49.toNatClampNeg v74 := ⟨_, rfl⟩
                            rw [← qf75] at hP hD
                            have hP : va_P G vwCl [(h0, oX10 b o_thrown o_taped o_size o_at o_from o_token o_value o_faultKind o_faultPlace o_lawNow o_walkSet o_oneWidow o_oneTurn o_askWorst o_mayWalk o_oftenAll o_oftenRoad o_oftenPegs), (b 42, .inl (cI, 4, .inl o_f42)), (b 43, .inl (cI, 4, .inl o_f43)), (b 44, .inl (cJ, 240, .inr (.inl o_f44))), (b 45, .inl (cJ, 60, .inr (.inl f75)))] H := hP
                            have hD : va_D A [(h0, oX10 b o_thrown o_taped o_size o_at o_from o_token o_value o_faultKind o_faultPlace o_lawNow o_walkSet o_oneWidow o_oneTurn o_askWorst o_mayWalk o_oftenAll o_oftenRoad o_oftenPegs), (b 42, .inl (cI, 4, .inl o_f42)), (b 43, .inl (cI, 4, .inl o_f43)), (b 44, .inl (cJ, 240, .inr (.inl o_f44))), (b 45, .inl (cJ, 60, .inr (.inl f75)))] := hD
                            obtain ⟨v76, ev76⟩ : ∃ y : Int32, y = x49 + 1 := ⟨_, rfl⟩
                            have tv76 : v76.toInt = x49.toInt + 1 := ti_add rfl ki_1 ev76 (by omega) (by omega)
                            refine lv_iinc (v := v76) (lv' := [(6, .int v76), (0, .ref h0), (1, .int p0), (2, .int p1), (3, .int p2), (4, .int p3), (5, .int p4)]) hx hb dX10_paste_141 hl (k := 0) rfl (by rw [ev76]; rfl) (by decide) rfl (fun ls hl => ?_)
                            refine lv_goto (tgt := 113) hx hb dX10_paste_144 (by decide) ?_
                            exact ih53 v76 f75 (by omega) (by omega) (by omega) _ _ hP hD hS ls (lv_sub hl [0, 1, 2, 3, 4, 5, 6] rfl)
                      exact lp47 61 0 o_f45 (by rw [ki_0]; decide) (by rw [ki_0]; decide) (by rw [ki_0]; decide) _ _ hP hD hS ls (lv_sub hl [0, 1, 2, 3, 4, 5, 6] rfl)
                    · have c46 := c_nle tv41 tv45 c46
                      refine lv_bipush (v := (-7)) hx hb dX10_paste_107 (by decide) ?_
                      exact hret _ _ _ _ (-7) (o_f44, o_f45) hP hD hS dX10_paste_109 (show (((-7) : Int32) = (if p0.toInt < 0 ∨ 3 < p0.toInt ∨ p2.toInt < 0 ∨ 3 < p2.toInt then -2 else if (o_f42 p0.toNatClampNeg).toInt = -1 ∨ (o_f42 p2.toNatClampNeg).toInt = -1 then -6 else if ¬ (o_f43 p0.toNatClampNeg).toInt = (o_f43 p2.toNatClampNeg).toInt then -8 else if p1.toInt < 0 ∨ p3.toInt < 0 ∨ p4.toInt < 0 ∨ (o_f42 p0.toNatClampNeg).toInt < p1.toInt + p4.toInt ∨ (o_f42 p2.toNatClampNeg).toInt < p3.toInt + p4.toInt then -7 else 0)) from (by (repeat' split) <;> first | rfl | (exfalso; omega)))
          · have c27 := i_ne rfl rfl c27
            refine lv_bipush (v := (-8)) hx hb dX10_paste_55 (by decide) ?_
            exact hret _ _ _ _ (-8) (o_f44, o_f45) hP hD hS dX10_paste_57 (show (((-8) : Int32) = (if p0.toInt < 0 ∨ 3 < p0.toInt ∨ p2.toInt < 0 ∨ 3 < p2.toInt then -2 else if (o_f42 p0.toNatClampNeg).toInt = -1 ∨ (o_f42 p2.toNatClampNeg).toInt = -1 then -6 else if ¬ (o_f43 p0.toNatClampNeg).toInt = (o_f43 p2.toNatClampNeg).toInt then -8 else if p1.toInt < 0 ∨ p3.toInt < 0 ∨ p4.toInt < 0 ∨ (o_f42 p0.toNatClampNeg).toInt < p1.toInt + p4.toInt ∨ (o_f42 p2.toNatClampNeg).toInt < p3.toInt + p4.toInt then -7 else 0)) from (by (repeat' split) <;> first | rfl | (exfalso; omega)))
        · have c24 := i_eq rfl ki_m1 c24
          refine lv_bipush (v := (-6)) hx hb dX10_paste_37 (by decide) ?_
          exact hret _ _ _ _ (-6) (o_f44, o_f45) hP hD hS dX10_paste_39 (show (((-6) : Int32) = (if p0.toInt < 0 ∨ 3 < p0.toInt ∨ p2.toInt < 0 ∨ 3 < p2.toInt then -2 else if (o_f42 p0.toNatClampNeg).toInt = -1 ∨ (o_f42 p2.toNatClampNeg).toInt = -1 then -6 else if ¬ (o_f43 p0.toNatClampNeg).toInt = (o_f43 p2.toNatClampNeg).toInt then -8 else if p1.toInt < 0 ∨ p3.toInt < 0 ∨ p4.toInt < 0 ∨ (o_f42 p0.toNatClampNeg).toInt < p1.toInt + p4.toInt ∨ (o_f42 p2.toNatClampNeg).toInt < p3.toInt + p4.toInt then -7 else 0)) from (by (repeat' split) <;> first | rfl | (exfalso; omega)))
    · skip
      refine lv_if_ne (tgt := 17) hx hb dX10_paste_11 (by decide) (fun c77 => absurd (by decide) c77) (fun c77 => ?_)
      refine lv_bipush (v := (-2)) hx hb dX10_paste_14 (by decide) ?_
      exact hret _ _ _ _ (-2) (o_f44, o_f45) hP hD hS dX10_paste_16 (show (((-2) : Int32) = (if p0.toInt < 0 ∨ 3 < p0.toInt ∨ p2.toInt < 0 ∨ 3 < p2.toInt then -2 else if (o_f42 p0.toNatClampNeg).toInt = -1 ∨ (o_f42 p2.toNatClampNeg).toInt = -1 then -6 else if ¬ (o_f43 p0.toNatClampNeg).toInt = (o_f43 p2.toNatClampNeg).toInt then -8 else if p1.toInt < 0 ∨ p3.toInt < 0 ∨ p4.toInt < 0 ∨ (o_f42 p0.toNatClampNeg).toInt < p1.toInt + p4.toInt ∨ (o_f42 p2.toNatClampNeg).toInt < p3.toInt + p4.toInt then -7 else 0)) from (by (repeat' split) <;> first | rfl | (exfalso; omega)))
  · skip
    refine lv_if_eq (tgt := 14) hx hb dX10_paste_4 (by decide) (fun c78 => ?_) (fun c78 => absurd (by decide) c78)
    refine lv_bipush (v := (-2)) hx hb dX10_paste_14 (by decide) ?_
    exact hret _ _ _ _ (-2) (o_f44, o_f45) hP hD hS dX10_paste_16 (show (((-2) : Int32) = (if p0.toInt < 0 ∨ 3 < p0.toInt ∨ p2.toInt < 0 ∨ 3 < p2.toInt then -2 else if (o_f42 p0.toNatClampNeg).toInt = -1 ∨ (o_f42 p2.toNatClampNeg).toInt = -1 then -6 else if ¬ (o_f43 p0.toNatClampNeg).toInt = (o_f43 p2.toNatClampNeg).toInt then -8 else if p1.toInt < 0 ∨ p3.toInt < 0 ∨ p4.toInt < 0 ∨ (o_f42 p0.toNatClampNeg).toInt < p1.toInt + p4.toInt ∨ (o_f42 p2.toNatClampNeg).toInt < p3.toInt + p4.toInt then -7 else 0)) from (by (repeat' split) <;> first | rfl | (exfalso; omega)))
set_option maxHeartbeats 4000000 in
set_option maxRecDepth 100000 in
theorem f_X10_image (l : Launch) (G : va_G) (cI cJ cZ cB cQ : ClassId) (sz : Nat) (h0 : Nat) (p0 : Int32) (a0 : Int) (b : Nat → Nat) (o_thrown : Int32) (o_taped : Int32) (o_size : Int32) (o_at : Int32) (o_from : Int32) (o_token : Int32) (o_value : Int32) (o_faultKind : Int32) (o_faultPlace : Int32) (o_lawNow : Int32) (o_walkSet : Int32) (o_oneWidow : Int32) (o_oneTurn : Int32) (o_askWorst : Int32) (o_mayWalk : Int32) (o_oftenAll : Int64) (o_oftenRoad : Int64) (o_oftenPegs : Int64) (o_f1 : Nat → Int32) (o_f2 : Nat → Int32) (o_f3 : Nat → Int32) (hp0 : p0.toInt = a0) (hIM : IM o_f2 o_f3) (hl_o_taped : 0 ≤ o_taped.toInt) (hh_o_taped : o_taped.toInt ≤ 900) (hl_o_size : 0 ≤ o_size.toInt) (hh_o_size : o_size.toInt ≤ 900) (hl_o_at : 0 ≤ o_at.toInt) (hh_o_at : o_at.toInt ≤ 900) (hl_o_from : 0 ≤ o_from.toInt) (hh_o_from : o_from.toInt ≤ 900) (hl_o_oneTurn : 0 ≤ o_oneTurn.toInt) (hh_o_oneTurn : o_oneTurn.toInt ≤ 4) (ha_o_f1 : WI o_f1) (ha_o_f3 : ai o_f3 3 0 1) : CI l yX10_image (wl_ yX10_image cX10_image 3 (some .int)) ({ frames := 1, cells := 0, slots := 0, locals := 25 } : Room) G (TY cI cJ cZ cB cQ) [.ref h0, .int p0] [(h0, oX10 b o_thrown o_taped o_size o_at o_from o_token o_value o_faultKind o_faultPlace o_lawNow o_walkSet o_oneWidow o_oneTurn o_askWorst o_mayWalk o_oftenAll o_oftenRoad o_oftenPegs), (b 1, .inl (cI, 149, .inl o_f1)), (b 2, .inl (cI, 447, .inl o_f2)), (b 3, .inl (cZ, 3, .inl o_f3))] sz (fun (r : Int32) (u : (Nat → Int32) × (Nat → Int32)) => ai u.2 3 0 1 ∧ IM u.1 u.2 ∧ ((r = 0 ∧ 0 ≤ p0.toInt ∧ p0.toInt ≤ 2 ∧ u.2 = upd o_f3 p0.toNatClampNeg 1) ∨ (r = -2 ∧ (p0.toInt < 0 ∨ 2 < p0.toInt) ∧ u.2 = o_f3))) (fun u : (Nat → Int32) × (Nat → Int32) => [(h0, oX10 b o_thrown o_taped o_size o_at o_from o_token o_value o_faultKind o_faultPlace o_lawNow o_walkSet o_oneWidow o_oneTurn o_askWorst o_mayWalk o_oftenAll o_oftenRoad o_oftenPegs), (b 1, .inl (cI, 149, .inl o_f1)), (b 2, .inl (cI, 447, .inl u.1)), (b 3, .inl (cZ, 3, .inl u.2))]) 0 0 := by
  refine CI.go (cc := cX10_image) (maxL := 3) (ret := (some .int)) (by decide) rfl (Nat.le_of_ble_eq_true rfl) ?_
  intro p e s m below meth c A ls Q hBd hret
  obtain ⟨hx, hb, hr, hml, hts, hown, hlk, hnm, hP, hK, hD, hA, hZ, hl⟩ := hBd
  have hown : s.vm.findClass RX10 = some m.cls := hown
  have hl : lv_has ls 3 [(0, .ref h0), (1, .int p0)] := hl
  have hS : va_S A s.heap s.heap [] := va_S.rf
  refine lv_iload_n hx hb dX10_image_0 rfl (lv_at hl 1 rfl) ?_
  obtain ⟨v1, ev1⟩ : ∃ y : Int64, p0.toInt64 = y := ⟨_, rfl⟩
  have tv1 : v1.toInt = a0 := ti_wide hp0 ev1
  refine lv_i2l (v := v1) hx hb dX10_image_1 ev1 ?_
  refine lv_lconst (v := 0) hx hb dX10_image_2 (by decide) ?_
  refine lv_ldc2 (v := 2) hx hb hown (hts _ w_1335) dX10_image_3 ?_
  refine k_i (wc := []) (wr := [(h0, oX10 b o_thrown o_taped o_size o_at o_from o_token o_value o_faultKind o_faultPlace o_lawNow o_walkSet o_oneWidow o_oneTurn o_askWorst o_mayWalk o_oftenAll o_oftenRoad o_oftenPegs), (b 1, .inl (cI, 149, .inl o_f1)), (b 2, .inl (cI, 447, .inl o_f2)), (b 3, .inl (cZ, 3, .inl o_f3))]) hP hD hS hA [] [0, 1, 2, 3] rfl rfl rfl (by decide) (va_runS (As := [.long v1, .long 0, .long 2]) (rest := []) ⟨hx, hb, hml, hown, hts⟩ (f_X10_in l G cI cJ cZ cB cQ _ v1 a0 0 0 2 2 tv1 kl_0 kl_2) (va_cwS 3 hts (gS w_1336 w_1337 w_11 w_1338) rfl rfl rfl hd_X10_in ⟨Nat.le_of_ble_eq_true rfl, Nat.le_of_ble_eq_true rfl⟩) (mS hK hZ hP hD [] rfl rfl [.long v1, .long 0, .long 2]) rfl rfl hl.1 rfl (lv_room (Nat.le_of_ble_eq_true rfl)) dX10_image_6 ⟨Nat.le_of_ble_eq_true rfl, Nat.le_of_ble_eq_true rfl⟩) (fun r2 u3 H locs hw4 hP hD hS => ?_)
  try dsimp only at hw4
  have hP : va_P G vwCl [(h0, oX10 b o_thrown o_taped o_size o_at o_from o_token o_value o_faultKind o_faultPlace o_lawNow o_walkSet o_oneWidow o_oneTurn o_askWorst o_mayWalk o_oftenAll o_oftenRoad o_oftenPegs), (b 1, .inl (cI, 149, .inl o_f1)), (b 2, .inl (cI, 447, .inl o_f2)), (b 3, .inl (cZ, 3, .inl o_f3))] H := hP
  have hD : va_D A [(h0, oX10 b o_thrown o_taped o_size o_at o_from o_token o_value o_faultKind o_faultPlace o_lawNow o_walkSet o_oneWidow o_oneTurn o_askWorst o_mayWalk o_oftenAll o_oftenRoad o_oftenPegs), (b 1, .inl (cI, 149, .inl o_f1)), (b 2, .inl (cI, 447, .inl o_f2)), (b 3, .inl (cZ, 3, .inl o_f3))] := hD
  rcases hw4 with ⟨rfl, a6, a7⟩ | ⟨rfl, a8⟩
  · skip
    refine lv_if_ne (tgt := 15) hx hb dX10_image_9 (by decide) (fun c9 => ?_) (fun c9 => absurd c9 (by decide))
    refine lv_iconst (v := 0) hx hb dX10_image_15 (by decide) ?_
    refine lv_istore_n (lv' := [(2, .int 0), (0, .ref h0), (1, .int p0)]) hx hb dX10_image_16 rfl hl (by decide) rfl (fun ls hl => ?_)
    have lp10 : ∀ (n11 : Nat) (x12 : Int32) (g13 : Nat → Int32), 0 ≤ x12.toInt → x12.toInt ≤ 149 → CJ g13 o_f2 o_f1 (149 * a0) x12.toInt → 149 - x12.toInt < (n11 : Int) → ∀ (H : Heap) (locs : List Loc), va_P G vwCl [(h0, oX10 b o_thrown o_taped o_size o_at o_from o_token o_value o_faultKind o_faultPlace o_lawNow o_walkSet o_oneWidow o_oneTurn o_askWorst o_mayWalk o_oftenAll o_oftenRoad o_oftenPegs), (b 1, .inl (cI, 149, .inl o_f1)), (b 2, .inl (cI, 447, .inl g13)), (b 3, .inl (cZ, 3, .inl o_f3))] H → va_D A [(h0, oX10 b o_thrown o_taped o_size o_at o_from o_token o_value o_faultKind o_faultPlace o_lawNow o_walkSet o_oneWidow o_oneTurn o_askWorst o_mayWalk o_oftenAll o_oftenRoad o_oftenPegs), (b 1, .inl (cI, 149, .inl o_f1)), (b 2, .inl (cI, 447, .inl g13)), (b 3, .inl (cZ, 3, .inl o_f3))] → va_S A s.heap H locs → ∀ (ls : Array Slot), lv_has ls 3 [(2, .int x12), (0, .ref h0), (1, .int p0)] → W p l e ({ frames := 1, cells := 0, slots := 0, locals := 25 } : Room) s m ([.ref h0, .int p0] : List Value).toArray below meth c H locs 0 0 Q (F0 m 17 ls []) := by
      intro n11
      induction n11 with
      | zero =>
        intro x12 g13 k14 k15 ic15 mm17
        exact absurd mm17 (by have q9 := fb_rng x12; omega)
      | succ n11 ih16 =>
        intro x12 g13 k14 k15 ic15 mm17 H locs hP hD hS ls hl
        refine lv_iload_n hx hb dX10_image_17 rfl (lv_at hl 0 rfl) ?_
        refine lv_sipush (v := 149) hx hb dX10_image_18 (by decide) ?_
        refine lv_icmp_ge (tgt := 48) hx hb dX10_image_21 (by decide) (fun c18 => ?_) (fun c18 => ?_)
        · have c18 := i_le ki_149 rfl c18
          refine lv_aload_n hx hb dX10_image_48 rfl (lv_at hl 1 rfl) ?_
          refine va_get (D := G) (ci := 10) (v := .ref (b 3)) (C := RX10) (T := TX10) (N := 46) hx hb hts iG_X10 hown hK hP 0 rfl rfl 3 (by decide) (hts _ w_1195) (fun _ h9 => h9) rfl dX10_image_49 ?_
          refine lv_iload_n hx hb dX10_image_52 rfl (lv_at hl 2 rfl) ?_
          refine lv_iconst (v := 1) hx hb dX10_image_53 (by decide) ?_
          refine va_zast hx hb hK hP hD hS 3 2 rfl rfl (ix_in hp0 (by omega) (by omega)) dX10_image_54 (fun H locs hP hD hS => ?_)
          obtain ⟨f19, qf19⟩ : ∃ g, g = upd o_f3 p0.toNatClampNeg (vp_nar .boolean (1 : Int32)) := ⟨_, rfl⟩
          rw [← qf19] at hP hD
          have hi20 : ai f19 3 0 1 := by rw [qf19]; exact ai_putz ha_o_f3
          have hP : va_P G vwCl [(h0, oX10 b o_thrown o_taped o_size o_at o_from o_token o_value o_faultKind o_faultPlace o_lawNow o_walkSet o_oneWidow o_oneTurn o_askWorst o_mayWalk o_oftenAll o_oftenRoad o_oftenPegs), (b 1, .inl (cI, 149, .inl o_f1)), (b 2, .inl (cI, 447, .inl g13)), (b 3, .inl (cZ, 3, .inl f19))] H := hP
          have hD : va_D A [(h0, oX10 b o_thrown o_taped o_size o_at o_from o_token o_value o_faultKind o_faultPlace o_lawNow o_walkSet o_oneWidow o_oneTurn o_askWorst o_mayWalk o_oftenAll o_oftenRoad o_oftenPegs), (b 1, .inl (cI, 149, .inl o_f1)), (b 2, .inl (cI, 447, .inl g13)), (b 3, .inl (cZ, 3, .inl f19))] := hD
          refine lv_iconst (v := 0) hx hb dX10_image_55 (by decide) ?_
          exact hret _ _ _ _ 0 (g13, f19) hP hD hS dX10_image_56 (show ai f19 3 0 1 ∧ IM g13 f19 ∧ (((0 : Int32) = 0 ∧ 0 ≤ p0.toInt ∧ p0.toInt ≤ 2 ∧ f19 = upd o_f3 p0.toNatClampNeg 1) ∨ ((0 : Int32) = -2 ∧ (p0.toInt < 0 ∨ 2 < p0.toInt) ∧ f19 = o_f3)) from ⟨hi20, (by rw [qf19]; exact IM_put hIM ha_o_f1 ic15 hp0 (by omega) (by omega) rfl (by omega)), (Or.inl ⟨rfl, by omega, by omega, qf19⟩)⟩)
        · have c18 := i_nle ki_149 rfl c18
          refine lv_aload_n hx hb dX10_image_24 rfl (lv_at hl 1 rfl) ?_
          refine va_get (D := G) (ci := 10) (v := .ref (b 2)) (C := RX10) (T := TX10) (N := 46) hx hb hts iG_X10 hown hK hP 0 rfl rfl 2 (by decide) (hts _ w_1194) (fun _ h9 => h9) rfl dX10_image_25 ?_
          refine lv_sipush (v := 149) hx hb dX10_image_28 (by decide) ?_
          refine lv_iload_n hx hb dX10_image_31 rfl (lv_at hl 2 rfl) ?_
          refine lv_imul hx hb dX10_image_32 ?_
          refine lv_topi (fun v21 ev21 => ?_)
          have tv21 : v21.toInt = 149 * a0 := ti_mul ki_149 hp0 ev21 (by omega) (by omega)
          refine lv_iload_n hx hb dX10_image_33 rfl (lv_at hl 0 rfl) ?_
          refine lv_iadd hx hb dX10_image_34 ?_
          refine lv_topi (fun v22 ev22 => ?_)
          have tv22 : v22.toInt = 149 * a0 + x12.toInt := ti_add tv21 rfl ev22 (by omega) (by omega)
          refine lv_aload_n hx hb dX10_image_35 rfl (lv_at hl 1 rfl) ?_
          refine va_get (D := G) (ci := 10) (v := .ref (b 1)) (C := RX10) (T := TX10) (N := 46) hx hb hts iG_X10 hown hK hP 0 rfl rfl 1 (by decide) (hts _ w_1193) (fun _ h9 => h9) rfl dX10_image_36 ?_
          refine lv_iload_n hx hb dX10_image_39 rfl (lv_at hl 0 rfl) ?_
          refine va_iald hx hb hK hP 1 0 rfl rfl (ix_in rfl (by omega) (by omega)) dX10_image_40 ?_
          refine lv_topi (fun v23 ev23 => ?_)
          refine va_iast hx hb hK hP hD hS 2 0 rfl rfl (ix_in tv22 (by omega) (by omega)) dX10_image_41 (fun H locs hP hD hS => ?_)
          obtain ⟨f24, qf24⟩ : ∃ g, g = upd g13 v22.toNatClampNeg v23 := ⟨_, rfl⟩
          rw [← qf24] at hP hD
          have hP : va_P G vwCl [(h0, oX10 b o_thrown o_taped o_size o_at o_from o_token o_value o_faultKind o_faultPlace o_lawNow o_walkSet o_oneWidow o_oneTurn o_askWorst o_mayWalk o_oftenAll o_oftenRoad o_oftenPegs), (b 1, .inl (cI, 149, .inl o_f1)), (b 2, .inl (cI, 447, .inl f24)), (b 3, .inl (cZ, 3, .inl o_f3))] H := hP
          have hD : va_D A [(h0, oX10 b o_thrown o_taped o_size o_at o_from o_token o_value o_faultKind o_faultPlace o_lawNow o_walkSet o_oneWidow o_oneTurn o_askWorst o_mayWalk o_oftenAll o_oftenRoad o_oftenPegs), (b 1, .inl (cI, 149, .inl o_f1)), (b 2, .inl (cI, 447, .inl f24)), (b 3, .inl (cZ, 3, .inl o_f3))] := hD
          obtain ⟨v25, ev25⟩ : ∃ y : Int32, y = x12 + 1 := ⟨_, rfl⟩
          have tv25 : v25.toInt = x12.toInt + 1 := ti_add rfl ki_1 ev25 (by omega) (by omega)
          refine lv_iinc (v := v25) (lv' := [(2, .int v25), (0, .ref h0), (1, .int p0)]) hx hb dX10_image_42 hl (k := 0) rfl (by rw [ev25]; rfl) (by decide) rfl (fun ls hl => ?_)
          refine lv_goto (tgt := 17) hx hb dX10_image_45 (by decide) ?_
          exact ih16 v25 f24 (by omega) (by omega) (by rw [qf24]; exact CJ_up ic15 tv22 (by omega) (by omega) (by omega) rfl (by omega) ev23 (by omega)) (by omega) _ _ hP hD hS ls (lv_sub hl [0, 1, 2] rfl)
    exact lp10 150 0 o_f2 (by rw [ki_0]; decide) (by rw [ki_0]; decide) CJ_0 (by rw [ki_0]; decide) _ _ hP hD hS ls (lv_sub hl [0, 1, 2] rfl)
  · skip
    refine lv_if_ne (tgt := 15) hx hb dX10_image_9 (by decide) (fun c26 => absurd (by decide) c26) (fun c26 => ?_)
    refine lv_bipush (v := (-2)) hx hb dX10_image_12 (by decide) ?_
    exact hret _ _ _ _ (-2) (o_f2, o_f3) hP hD hS dX10_image_14 (show ai o_f3 3 0 1 ∧ IM o_f2 o_f3 ∧ ((((-2) : Int32) = 0 ∧ 0 ≤ p0.toInt ∧ p0.toInt ≤ 2 ∧ o_f3 = upd o_f3 p0.toNatClampNeg 1) ∨ (((-2) : Int32) = -2 ∧ (p0.toInt < 0 ∨ 2 < p0.toInt) ∧ o_f3 = o_f3)) from ⟨ha_o_f3, hIM, (Or.inr ⟨rfl, by omega, rfl⟩)⟩)
set_option maxHeartbeats 4000000 in
set_option maxRecDepth 100000 in
theorem f_X10_back (l : Launch) (G : va_G) (cI cJ cZ cB cQ : ClassId) (sz : Nat) (h0 : Nat) (p0 : Int32) (a0 : Int) (b : Nat → Nat) (o_thrown : Int32) (o_taped : Int32) (o_size : Int32) (o_at : Int32) (o_from : Int32) (o_token : Int32) (o_value : Int32) (o_faultKind : Int32) (o_faultPlace : Int32) (o_lawNow : Int32) (o_walkSet : Int32) (o_oneWidow : Int32) (o_oneTurn : Int32) (o_askWorst : Int32) (o_mayWalk : Int32) (o_oftenAll : Int64) (o_oftenRoad : Int64) (o_oftenPegs : Int64) (o_f1 : Nat → Int32) (o_f2 : Nat → Int32) (o_f3 : Nat → Int32) (hp0 : p0.toInt = a0) (hIM : IM o_f2 o_f3) (hl_o_taped : 0 ≤ o_taped.toInt) (hh_o_taped : o_taped.toInt ≤ 900) (hl_o_size : 0 ≤ o_size.toInt) (hh_o_size : o_size.toInt ≤ 900) (hl_o_at : 0 ≤ o_at.toInt) (hh_o_at : o_at.toInt ≤ 900) (hl_o_from : 0 ≤ o_from.toInt) (hh_o_from : o_from.toInt ≤ 900) (hl_o_oneTurn : 0 ≤ o_oneTurn.toInt) (hh_o_oneTurn : o_oneTurn.toInt ≤ 4) (ha_o_f1 : WI o_f1) (ha_o_f3 : ai o_f3 3 0 1) : CI l yX10_back (wl_ yX10_back cX10_back 3 (some .int)) ({ frames := 1, cells := 0, slots := 0, locals := 25 } : Room) G (TY cI cJ cZ cB cQ) [.ref h0, .int p0] [(h0, oX10 b o_thrown o_taped o_size o_at o_from o_token o_value o_faultKind o_faultPlace o_lawNow o_walkSet o_oneWidow o_oneTurn o_askWorst o_mayWalk o_oftenAll o_oftenRoad o_oftenPegs), (b 1, .inl (cI, 149, .inl o_f1)), (b 2, .inl (cI, 447, .inl o_f2)), (b 3, .inl (cZ, 3, .inl o_f3))] sz (fun (r : Int32) (u : (Nat → Int32)) => WI u ∧ (r = (if p0.toInt < 0 ∨ 2 < p0.toInt then -2 else if (o_f3 p0.toNatClampNeg).toInt = 0 then -6 else 0))) (fun u : (Nat → Int32) => [(h0, oX10 b o_thrown o_taped o_size o_at o_from o_token o_value o_faultKind o_faultPlace o_lawNow o_walkSet o_oneWidow o_oneTurn o_askWorst o_mayWalk o_oftenAll o_oftenRoad o_oftenPegs), (b 1, .inl (cI, 149, .inl u)), (b 2, .inl (cI, 447, .inl o_f2)), (b 3, .inl (cZ, 3, .inl o_f3))]) 0 0 := by
  refine CI.go (cc := cX10_back) (maxL := 3) (ret := (some .int)) (by decide) rfl (Nat.le_of_ble_eq_true rfl) ?_
  intro p e s m below meth c A ls Q hBd hret
  obtain ⟨hx, hb, hr, hml, hts, hown, hlk, hnm, hP, hK, hD, hA, hZ, hl⟩ := hBd
  have hown : s.vm.findClass RX10 = some m.cls := hown
  have hl : lv_has ls 3 [(0, .ref h0), (1, .int p0)] := hl
  have hS : va_S A s.heap s.heap [] := va_S.rf
  refine lv_iload_n hx hb dX10_back_0 rfl (lv_at hl 1 rfl) ?_
  obtain ⟨v1, ev1⟩ : ∃ y : Int64, p0.toInt64 = y := ⟨_, rfl⟩
  have tv1 : v1.toInt = a0 := ti_wide hp0 ev1
  refine lv_i2l (v := v1) hx hb dX10_back_1 ev1 ?_
  refine lv_lconst (v := 0) hx hb dX10_back_2 (by decide) ?_
  refine lv_ldc2 (v := 2) hx hb hown (hts _ w_1335) dX10_back_3 ?_
  refine k_i (wc := []) (wr := [(h0, oX10 b o_thrown o_taped o_size o_at o_from o_token o_value o_faultKind o_faultPlace o_lawNow o_walkSet o_oneWidow o_oneTurn o_askWorst o_mayWalk o_oftenAll o_oftenRoad o_oftenPegs), (b 1, .inl (cI, 149, .inl o_f1)), (b 2, .inl (cI, 447, .inl o_f2)), (b 3, .inl (cZ, 3, .inl o_f3))]) hP hD hS hA [] [0, 1, 2, 3] rfl rfl rfl (by decide) (va_runS (As := [.long v1, .long 0, .long 2]) (rest := []) ⟨hx, hb, hml, hown, hts⟩ (f_X10_in l G cI cJ cZ cB cQ _ v1 a0 0 0 2 2 tv1 kl_0 kl_2) (va_cwS 3 hts (gS w_1336 w_1337 w_11 w_1338) rfl rfl rfl hd_X10_in ⟨Nat.le_of_ble_eq_true rfl, Nat.le_of_ble_eq_true rfl⟩) (mS hK hZ hP hD [] rfl rfl [.long v1, .long 0, .long 2]) rfl rfl hl.1 rfl (lv_room (Nat.le_of_ble_eq_true rfl)) dX10_back_6 ⟨Nat.le_of_ble_eq_true rfl, Nat.le_of_ble_eq_true rfl⟩) (fun r2 u3 H locs hw4 hP hD hS => ?_)
  try dsimp only at hw4
  have hP : va_P G vwCl [(h0, oX10 b o_thrown o_taped o_size o_at o_from o_token o_value o_faultKind o_faultPlace o_lawNow o_walkSet o_oneWidow o_oneTurn o_askWorst o_mayWalk o_oftenAll o_oftenRoad o_oftenPegs), (b 1, .inl (cI, 149, .inl o_f1)), (b 2, .inl (cI, 447, .inl o_f2)), (b 3, .inl (cZ, 3, .inl o_f3))] H := hP
  have hD : va_D A [(h0, oX10 b o_thrown o_taped o_size o_at o_from o_token o_value o_faultKind o_faultPlace o_lawNow o_walkSet o_oneWidow o_oneTurn o_askWorst o_mayWalk o_oftenAll o_oftenRoad o_oftenPegs), (b 1, .inl (cI, 149, .inl o_f1)), (b 2, .inl (cI, 447, .inl o_f2)), (b 3, .inl (cZ, 3, .inl o_f3))] := hD
  rcases hw4 with ⟨rfl, a6, a7⟩ | ⟨rfl, a8⟩
  · skip
    refine lv_if_ne (tgt := 15) hx hb dX10_back_9 (by decide) (fun c9 => ?_) (fun c9 => absurd c9 (by decide))
    refine lv_aload_n hx hb dX10_back_15 rfl (lv_at hl 0 rfl) ?_
    refine va_get (D := G) (ci := 10) (v := .ref (b 3)) (C := RX10) (T := TX10) (N := 46) hx hb hts iG_X10 hown hK hP 0 rfl rfl 3 (by decide) (hts _ w_1195) (fun _ h9 => h9) rfl dX10_back_16 ?_
    refine lv_iload_n hx hb dX10_back_19 rfl (lv_at hl 1 rfl) ?_
    refine va_zald hx hb hK hP 3 2 rfl rfl (ix_in hp0 (by omega) (by omega)) dX10_back_20 ?_
    refine lv_topi (fun v10 ev10 => ?_)
    obtain ⟨ia11, ib12⟩ := ai_get ha_o_f3 hp0 (by omega) (by omega) ev10
    have lkv10 : v10.toInt = (o_f3 p0.toNatClampNeg).toInt := by rw [ev10]
    refine lv_if_ne (tgt := 27) hx hb dX10_back_21 (by decide) (fun c13 => ?_) (fun c13 => ?_)
    · have c13 := i_ne rfl ki_0 c13
      refine lv_iconst (v := 0) hx hb dX10_back_27 (by decide) ?_
      refine lv_istore_n (lv' := [(2, .int 0), (0, .ref h0), (1, .int p0)]) hx hb dX10_back_28 rfl hl (by decide) rfl (fun ls hl => ?_)
      have lp14 : ∀ (n15 : Nat) (x16 : Int32) (g17 : Nat → Int32), 0 ≤ x16.toInt → x16.toInt ≤ 149 → CB g17 o_f2 (149 * a0) x16.toInt → 149 - x16.toInt < (n15 : Int) → ∀ (H : Heap) (locs : List Loc), va_P G vwCl [(h0, oX10 b o_thrown o_taped o_size o_at o_from o_token o_value o_faultKind o_faultPlace o_lawNow o_walkSet o_oneWidow o_oneTurn o_askWorst o_mayWalk o_oftenAll o_oftenRoad o_oftenPegs), (b 1, .inl (cI, 149, .inl g17)), (b 2, .inl (cI, 447, .inl o_f2)), (b 3, .inl (cZ, 3, .inl o_f3))] H → va_D A [(h0, oX10 b o_thrown o_taped o_size o_at o_from o_token o_value o_faultKind o_faultPlace o_lawNow o_walkSet o_oneWidow o_oneTurn o_askWorst o_mayWalk o_oftenAll o_oftenRoad o_oftenPegs), (b 1, .inl (cI, 149, .inl g17)), (b 2, .inl (cI, 447, .inl o_f2)), (b 3, .inl (cZ, 3, .inl o_f3))] → va_S A s.heap H locs → ∀ (ls : Array Slot), lv_has ls 3 [(2, .int x16), (0, .ref h0), (1, .int p0)] → W p l e ({ frames := 1, cells := 0, slots := 0, locals := 25 } : Room) s m ([.ref h0, .int p0] : List Value).toArray below meth c H locs 0 0 Q (F0 m 29 ls []) := by
        intro n15
        induction n15 with
        | zero =>
          intro x16 g17 k18 k19 bc19 mm21
          exact absurd mm21 (by have q9 := fb_rng x16; omega)
        | succ n15 ih20 =>
          intro x16 g17 k18 k19 bc19 mm21 H locs hP hD hS ls hl
          refine lv_iload_n hx hb dX10_back_29 rfl (lv_at hl 0 rfl) ?_
          refine lv_sipush (v := 149) hx hb dX10_back_30 (by decide) ?_
          refine lv_icmp_ge (tgt := 60) hx hb dX10_back_33 (by decide) (fun c22 => ?_) (fun c22 => ?_)
          · have c22 := i_le ki_149 rfl c22
            refine lv_iconst (v := 0) hx hb dX10_back_60 (by decide) ?_
            have hwe23 : WI g17 := CB_end hIM bc19 hp0 (by omega) (by omega) ev10 (by omega) rfl (by omega)
            exact hret _ _ _ _ 0 g17 hP hD hS dX10_back_61 (show WI g17 ∧ ((0 : Int32) = (if p0.toInt < 0 ∨ 2 < p0.toInt then -2 else if (o_f3 p0.toNatClampNeg).toInt = 0 then -6 else 0)) from ⟨hwe23, (by (repeat' split) <;> first | rfl | (exfalso; omega))⟩)
          · have c22 := i_nle ki_149 rfl c22
            refine lv_aload_n hx hb dX10_back_36 rfl (lv_at hl 1 rfl) ?_
            refine va_get (D := G) (ci := 10) (v := .ref (b 1)) (C := RX10) (T := TX10) (N := 46) hx hb hts iG_X10 hown hK hP 0 rfl rfl 1 (by decide) (hts _ w_1193) (fun _ h9 => h9) rfl dX10_back_37 ?_
            refine lv_iload_n hx hb dX10_back_40 rfl (lv_at hl 0 rfl) ?_
            refine lv_aload_n hx hb dX10_back_41 rfl (lv_at hl 1 rfl) ?_
            refine va_get (D := G) (ci := 10) (v := .ref (b 2)) (C := RX10) (T := TX10) (N := 46) hx hb hts iG_X10 hown hK hP 0 rfl rfl 2 (by decide) (hts _ w_1194) (fun _ h9 => h9) rfl dX10_back_42 ?_
            refine lv_sipush (v := 149) hx hb dX10_back_45 (by decide) ?_
            refine lv_iload_n hx hb dX10_back_48 rfl (lv_at hl 2 rfl) ?_
            refine lv_imul hx hb dX10_back_49 ?_
            refine lv_topi (fun v24 ev24 => ?_)
            have tv24 : v24.toInt = 149 * a0 := ti_mul ki_149 hp0 ev24 (by omega) (by omega)
            refine lv_iload_n hx hb dX10_back_50 rfl (lv_at hl 0 rfl) ?_
            refine lv_iadd hx hb dX10_back_51 ?_
            refine lv_topi (fun v25 ev25 => ?_)
            have tv25 : v25.toInt = 149 * a0 + x16.toInt := ti_add tv24 rfl ev25 (by omega) (by omega)
            refine va_iald hx hb hK hP 2 0 rfl rfl (ix_in tv25 (by omega) (by omega)) dX10_back_52 ?_
            refine lv_topi (fun v26 ev26 => ?_)
            have lkv26 : v26.toInt = (o_f2 v25.toNatClampNeg).toInt := by rw [ev26]
            refine va_iast hx hb hK hP hD hS 1 0 rfl rfl (ix_in rfl (by omega) (by omega)) dX10_back_53 (fun H locs hP hD hS => ?_)
            obtain ⟨f27, qf27⟩ : ∃ g, g = upd g17 x16.toNatClampNeg v26 := ⟨_, rfl⟩
            rw [← qf27] at hP hD
            have hP : va_P G vwCl [(h0, oX10 b o_thrown o_taped o_size o_at o_from o_token o_value o_faultKind o_faultPlace o_lawNow o_walkSet o_oneWidow o_oneTurn o_askWorst o_mayWalk o_oftenAll o_oftenRoad o_oftenPegs), (b 1, .inl (cI, 149, .inl f27)), (b 2, .inl (cI, 447, .inl o_f2)), (b 3, .inl (cZ, 3, .inl o_f3))] H := hP
            have hD : va_D A [(h0, oX10 b o_thrown o_taped o_size o_at o_from o_token o_value o_faultKind o_faultPlace o_lawNow o_walkSet o_oneWidow o_oneTurn o_askWorst o_mayWalk o_oftenAll o_oftenRoad o_oftenPegs), (b 1, .inl (cI, 149, .inl f27)), (b 2, .inl (cI, 447, .inl o_f2)), (b 3, .inl (cZ, 3, .inl o_f3))] := hD
            obtain ⟨v28, ev28⟩ : ∃ y : Int32, y = x16 + 1 := ⟨_, rfl⟩
            have tv28 : v28.toInt = x16.toInt + 1 := ti_add rfl ki_1 ev28 (by omega) (by omega)
            refine lv_iinc (v := v28) (lv' := [(2, .int v28), (0, .ref h0), (1, .int p0)]) hx hb dX10_back_54 hl (k := 0) rfl (by rw [ev28]; rfl) (by decide) rfl (fun ls hl => ?_)
            refine lv_goto (tgt := 29) hx hb dX10_back_57 (by decide) ?_
            exact ih20 v28 f27 (by omega) (by omega) (by rw [qf27]; exact CB_up bc19 rfl (by omega) (by omega) tv25 (by omega) (by omega) ev26 (by omega)) (by omega) _ _ hP hD hS ls (lv_sub hl [0, 1, 2] rfl)
      exact lp14 150 0 o_f1 (by rw [ki_0]; decide) (by rw [ki_0]; decide) CB_0 (by rw [ki_0]; decide) _ _ hP hD hS ls (lv_sub hl [0, 1, 2] rfl)
    · have c13 := i_eq rfl ki_0 c13
      refine lv_bipush (v := (-6)) hx hb dX10_back_24 (by decide) ?_
      exact hret _ _ _ _ (-6) o_f1 hP hD hS dX10_back_26 (show WI o_f1 ∧ (((-6) : Int32) = (if p0.toInt < 0 ∨ 2 < p0.toInt then -2 else if (o_f3 p0.toNatClampNeg).toInt = 0 then -6 else 0)) from ⟨ha_o_f1, (by (repeat' split) <;> first | rfl | (exfalso; omega))⟩)
  · skip
    refine lv_if_ne (tgt := 15) hx hb dX10_back_9 (by decide) (fun c29 => absurd (by decide) c29) (fun c29 => ?_)
    refine lv_bipush (v := (-2)) hx hb dX10_back_12 (by decide) ?_
    exact hret _ _ _ _ (-2) o_f1 hP hD hS dX10_back_14 (show WI o_f1 ∧ (((-2) : Int32) = (if p0.toInt < 0 ∨ 2 < p0.toInt then -2 else if (o_f3 p0.toNatClampNeg).toInt = 0 then -6 else 0)) from ⟨ha_o_f1, (by (repeat' split) <;> first | rfl | (exfalso; omega))⟩)
