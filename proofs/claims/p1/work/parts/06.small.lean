theorem dX0_become_0 : decode cX0_become 0 = .ok (.aload_n 0, 1) := by decide +kernel
theorem dX0_become_1 : decode cX0_become 1 = .ok (.aload_n 1, 1) := by decide +kernel
theorem dX0_become_2 : decode cX0_become 2 = .ok (.getfield 39, 3) := by decide +kernel
theorem dX0_become_5 : decode cX0_become 5 = .ok (.putfield 39, 3) := by decide +kernel
theorem dX0_become_8 : decode cX0_become 8 = .ok (.aload_n 0, 1) := by decide +kernel
theorem dX0_become_9 : decode cX0_become 9 = .ok (.aload_n 1, 1) := by decide +kernel
theorem dX0_become_10 : decode cX0_become 10 = .ok (.getfield 43, 3) := by decide +kernel
theorem dX0_become_13 : decode cX0_become 13 = .ok (.putfield 43, 3) := by decide +kernel
theorem dX0_become_16 : decode cX0_become 16 = .ok (.aload_n 0, 1) := by decide +kernel
theorem dX0_become_17 : decode cX0_become 17 = .ok (.aload_n 1, 1) := by decide +kernel
theorem dX0_become_18 : decode cX0_become 18 = .ok (.getfield 46, 3) := by decide +kernel
theorem dX0_become_21 : decode cX0_become 21 = .ok (.putfield 46, 3) := by decide +kernel
theorem dX0_become_24 : decode cX0_become 24 = .ok (.aload_n 0, 1) := by decide +kernel
theorem dX0_become_25 : decode cX0_become 25 = .ok (.aload_n 1, 1) := by decide +kernel
theorem dX0_become_26 : decode cX0_become 26 = .ok (.getfield 49, 3) := by decide +kernel
theorem dX0_become_29 : decode cX0_become 29 = .ok (.putfield 49, 3) := by decide +kernel
theorem dX0_become_32 : decode cX0_become 32 = .ok (.aload_n 0, 1) := by decide +kernel
theorem dX0_become_33 : decode cX0_become 33 = .ok (.aload_n 1, 1) := by decide +kernel
theorem dX0_become_34 : decode cX0_become 34 = .ok (.getfield 52, 3) := by decide +kernel
theorem dX0_become_37 : decode cX0_become 37 = .ok (.putfield 52, 3) := by decide +kernel
theorem dX0_become_40 : decode cX0_become 40 = .ok (.aload_n 0, 1) := by decide +kernel
theorem dX0_become_41 : decode cX0_become 41 = .ok (.aload_n 1, 1) := by decide +kernel
theorem dX0_become_42 : decode cX0_become 42 = .ok (.getfield 55, 3) := by decide +kernel
theorem dX0_become_45 : decode cX0_become 45 = .ok (.putfield 55, 3) := by decide +kernel
theorem dX0_become_48 : decode cX0_become 48 = .ok (.aload_n 0, 1) := by decide +kernel
theorem dX0_become_49 : decode cX0_become 49 = .ok (.aload_n 1, 1) := by decide +kernel
theorem dX0_become_50 : decode cX0_become 50 = .ok (.getfield 58, 3) := by decide +kernel
theorem dX0_become_53 : decode cX0_become 53 = .ok (.putfield 58, 3) := by decide +kernel
theorem dX0_become_56 : decode cX0_become 56 = .ok (.aload_n 0, 1) := by decide +kernel
theorem dX0_become_57 : decode cX0_become 57 = .ok (.aload_n 1, 1) := by decide +kernel
theorem dX0_become_58 : decode cX0_become 58 = .ok (.getfield 61, 3) := by decide +kernel
theorem dX0_become_61 : decode cX0_become 61 = .ok (.putfield 61, 3) := by decide +kernel
theorem dX0_become_64 : decode cX0_become 64 = .ok (.aload_n 0, 1) := by decide +kernel
theorem dX0_become_65 : decode cX0_become 65 = .ok (.aload_n 1, 1) := by decide +kernel
theorem dX0_become_66 : decode cX0_become 66 = .ok (.getfield 64, 3) := by decide +kernel
theorem dX0_become_69 : decode cX0_become 69 = .ok (.putfield 64, 3) := by decide +kernel
theorem dX0_become_72 : decode cX0_become 72 = .ok (.aload_n 0, 1) := by decide +kernel
theorem dX0_become_73 : decode cX0_become 73 = .ok (.aload_n 1, 1) := by decide +kernel
theorem dX0_become_74 : decode cX0_become 74 = .ok (.getfield 67, 3) := by decide +kernel
theorem dX0_become_77 : decode cX0_become 77 = .ok (.putfield 67, 3) := by decide +kernel
theorem dX0_become_80 : decode cX0_become 80 = .ok (.aload_n 1, 1) := by decide +kernel
theorem dX0_become_81 : decode cX0_become 81 = .ok (.getfield 9, 3) := by decide +kernel
theorem dX0_become_84 : decode cX0_become 84 = .ok (.iconst 0, 1) := by decide +kernel
theorem dX0_become_85 : decode cX0_become 85 = .ok (.aload_n 0, 1) := by decide +kernel
theorem dX0_become_86 : decode cX0_become 86 = .ok (.getfield 9, 3) := by decide +kernel
theorem dX0_become_89 : decode cX0_become 89 = .ok (.iconst 0, 1) := by decide +kernel
theorem dX0_become_90 : decode cX0_become 90 = .ok (.bipush 12, 2) := by decide +kernel
theorem dX0_become_92 : decode cX0_become 92 = .ok (.invokestatic 70, 3) := by decide +kernel
theorem dX0_become_95 : decode cX0_become 95 = .ok (.aload_n 1, 1) := by decide +kernel
theorem dX0_become_96 : decode cX0_become 96 = .ok (.getfield 15, 3) := by decide +kernel
theorem dX0_become_99 : decode cX0_become 99 = .ok (.iconst 0, 1) := by decide +kernel
theorem dX0_become_100 : decode cX0_become 100 = .ok (.aload_n 0, 1) := by decide +kernel
theorem dX0_become_101 : decode cX0_become 101 = .ok (.getfield 15, 3) := by decide +kernel
theorem dX0_become_104 : decode cX0_become 104 = .ok (.iconst 0, 1) := by decide +kernel
theorem dX0_become_105 : decode cX0_become 105 = .ok (.bipush 6, 2) := by decide +kernel
theorem dX0_become_107 : decode cX0_become 107 = .ok (.invokestatic 70, 3) := by decide +kernel
theorem dX0_become_110 : decode cX0_become 110 = .ok (.aload_n 1, 1) := by decide +kernel
theorem dX0_become_111 : decode cX0_become 111 = .ok (.getfield 18, 3) := by decide +kernel
theorem dX0_become_114 : decode cX0_become 114 = .ok (.iconst 0, 1) := by decide +kernel
theorem dX0_become_115 : decode cX0_become 115 = .ok (.aload_n 0, 1) := by decide +kernel
theorem dX0_become_116 : decode cX0_become 116 = .ok (.getfield 18, 3) := by decide +kernel
theorem dX0_become_119 : decode cX0_become 119 = .ok (.iconst 0, 1) := by decide +kernel
theorem dX0_become_120 : decode cX0_become 120 = .ok (.bipush 7, 2) := by decide +kernel
theorem dX0_become_122 : decode cX0_become 122 = .ok (.invokestatic 70, 3) := by decide +kernel
theorem dX0_become_125 : decode cX0_become 125 = .ok (.aload_n 1, 1) := by decide +kernel
theorem dX0_become_126 : decode cX0_become 126 = .ok (.getfield 21, 3) := by decide +kernel
theorem dX0_become_129 : decode cX0_become 129 = .ok (.iconst 0, 1) := by decide +kernel
theorem dX0_become_130 : decode cX0_become 130 = .ok (.aload_n 0, 1) := by decide +kernel
theorem dX0_become_131 : decode cX0_become 131 = .ok (.getfield 21, 3) := by decide +kernel
theorem dX0_become_134 : decode cX0_become 134 = .ok (.iconst 0, 1) := by decide +kernel
theorem dX0_become_135 : decode cX0_become 135 = .ok (.bipush 7, 2) := by decide +kernel
theorem dX0_become_137 : decode cX0_become 137 = .ok (.invokestatic 70, 3) := by decide +kernel
theorem dX0_become_140 : decode cX0_become 140 = .ok (.aload_n 1, 1) := by decide +kernel
theorem dX0_become_141 : decode cX0_become 141 = .ok (.getfield 24, 3) := by decide +kernel
theorem dX0_become_144 : decode cX0_become 144 = .ok (.iconst 0, 1) := by decide +kernel
theorem dX0_become_145 : decode cX0_become 145 = .ok (.aload_n 0, 1) := by decide +kernel
theorem dX0_become_146 : decode cX0_become 146 = .ok (.getfield 24, 3) := by decide +kernel
theorem dX0_become_149 : decode cX0_become 149 = .ok (.iconst 0, 1) := by decide +kernel
theorem dX0_become_150 : decode cX0_become 150 = .ok (.bipush 7, 2) := by decide +kernel
theorem dX0_become_152 : decode cX0_become 152 = .ok (.invokestatic 70, 3) := by decide +kernel
theorem dX0_become_155 : decode cX0_become 155 = .ok (.aload_n 1, 1) := by decide +kernel
theorem dX0_become_156 : decode cX0_become 156 = .ok (.getfield 27, 3) := by decide +kernel
theorem dX0_become_159 : decode cX0_become 159 = .ok (.iconst 0, 1) := by decide +kernel
theorem dX0_become_160 : decode cX0_become 160 = .ok (.aload_n 0, 1) := by decide +kernel
theorem dX0_become_161 : decode cX0_become 161 = .ok (.getfield 27, 3) := by decide +kernel
theorem dX0_become_164 : decode cX0_become 164 = .ok (.iconst 0, 1) := by decide +kernel
theorem dX0_become_165 : decode cX0_become 165 = .ok (.bipush 7, 2) := by decide +kernel
theorem dX0_become_167 : decode cX0_become 167 = .ok (.invokestatic 70, 3) := by decide +kernel
theorem dX0_become_170 : decode cX0_become 170 = .ok (.aload_n 1, 1) := by decide +kernel
theorem dX0_become_171 : decode cX0_become 171 = .ok (.getfield 30, 3) := by decide +kernel
theorem dX0_become_174 : decode cX0_become 174 = .ok (.iconst 0, 1) := by decide +kernel
theorem dX0_become_175 : decode cX0_become 175 = .ok (.aload_n 0, 1) := by decide +kernel
theorem dX0_become_176 : decode cX0_become 176 = .ok (.getfield 30, 3) := by decide +kernel
theorem dX0_become_179 : decode cX0_become 179 = .ok (.iconst 0, 1) := by decide +kernel
theorem dX0_become_180 : decode cX0_become 180 = .ok (.bipush 7, 2) := by decide +kernel
theorem dX0_become_182 : decode cX0_become 182 = .ok (.invokestatic 70, 3) := by decide +kernel
theorem dX0_become_185 : decode cX0_become 185 = .ok (.aload_n 1, 1) := by decide +kernel
theorem dX0_become_186 : decode cX0_become 186 = .ok (.getfield 33, 3) := by decide +kernel
theorem dX0_become_189 : decode cX0_become 189 = .ok (.iconst 0, 1) := by decide +kernel
theorem dX0_become_190 : decode cX0_become 190 = .ok (.aload_n 0, 1) := by decide +kernel
theorem dX0_become_191 : decode cX0_become 191 = .ok (.getfield 33, 3) := by decide +kernel
theorem dX0_become_194 : decode cX0_become 194 = .ok (.iconst 0, 1) := by decide +kernel
theorem dX0_become_195 : decode cX0_become 195 = .ok (.bipush 56, 2) := by decide +kernel
theorem dX0_become_197 : decode cX0_become 197 = .ok (.invokestatic 70, 3) := by decide +kernel
theorem dX0_become_200 : decode cX0_become 200 = .ok (.aload_n 1, 1) := by decide +kernel
theorem dX0_become_201 : decode cX0_become 201 = .ok (.getfield 36, 3) := by decide +kernel
theorem dX0_become_204 : decode cX0_become 204 = .ok (.iconst 0, 1) := by decide +kernel
theorem dX0_become_205 : decode cX0_become 205 = .ok (.aload_n 0, 1) := by decide +kernel
theorem dX0_become_206 : decode cX0_become 206 = .ok (.getfield 36, 3) := by decide +kernel
theorem dX0_become_209 : decode cX0_become 209 = .ok (.iconst 0, 1) := by decide +kernel
theorem dX0_become_210 : decode cX0_become 210 = .ok (.bipush 30, 2) := by decide +kernel
theorem dX0_become_212 : decode cX0_become 212 = .ok (.invokestatic 70, 3) := by decide +kernel
theorem dX0_become_215 : decode cX0_become 215 = .ok (.return_, 1) := by decide +kernel
theorem dX0_clear_0 : decode cX0_clear 0 = .ok (.aload_n 0, 1) := by decide +kernel
theorem dX0_clear_1 : decode cX0_clear 1 = .ok (.iconst 0, 1) := by decide +kernel
theorem dX0_clear_2 : decode cX0_clear 2 = .ok (.putfield 39, 3) := by decide +kernel
theorem dX0_clear_5 : decode cX0_clear 5 = .ok (.aload_n 0, 1) := by decide +kernel
theorem dX0_clear_6 : decode cX0_clear 6 = .ok (.iconst 0, 1) := by decide +kernel
theorem dX0_clear_7 : decode cX0_clear 7 = .ok (.putfield 43, 3) := by decide +kernel
theorem dX0_clear_10 : decode cX0_clear 10 = .ok (.aload_n 0, 1) := by decide +kernel
theorem dX0_clear_11 : decode cX0_clear 11 = .ok (.iconst 0, 1) := by decide +kernel
theorem dX0_clear_12 : decode cX0_clear 12 = .ok (.putfield 46, 3) := by decide +kernel
theorem dX0_clear_15 : decode cX0_clear 15 = .ok (.aload_n 0, 1) := by decide +kernel
theorem dX0_clear_16 : decode cX0_clear 16 = .ok (.iconst 0, 1) := by decide +kernel
theorem dX0_clear_17 : decode cX0_clear 17 = .ok (.putfield 49, 3) := by decide +kernel
theorem dX0_clear_20 : decode cX0_clear 20 = .ok (.aload_n 0, 1) := by decide +kernel
theorem dX0_clear_21 : decode cX0_clear 21 = .ok (.iconst 0, 1) := by decide +kernel
theorem dX0_clear_22 : decode cX0_clear 22 = .ok (.putfield 52, 3) := by decide +kernel
theorem dX0_clear_25 : decode cX0_clear 25 = .ok (.aload_n 0, 1) := by decide +kernel
theorem dX0_clear_26 : decode cX0_clear 26 = .ok (.iconst 0, 1) := by decide +kernel
theorem dX0_clear_27 : decode cX0_clear 27 = .ok (.putfield 55, 3) := by decide +kernel
theorem dX0_clear_30 : decode cX0_clear 30 = .ok (.aload_n 0, 1) := by decide +kernel
theorem dX0_clear_31 : decode cX0_clear 31 = .ok (.iconst 0, 1) := by decide +kernel
theorem dX0_clear_32 : decode cX0_clear 32 = .ok (.putfield 58, 3) := by decide +kernel
theorem dX0_clear_35 : decode cX0_clear 35 = .ok (.aload_n 0, 1) := by decide +kernel
theorem dX0_clear_36 : decode cX0_clear 36 = .ok (.iconst 0, 1) := by decide +kernel
theorem dX0_clear_37 : decode cX0_clear 37 = .ok (.putfield 61, 3) := by decide +kernel
theorem dX0_clear_40 : decode cX0_clear 40 = .ok (.aload_n 0, 1) := by decide +kernel
theorem dX0_clear_41 : decode cX0_clear 41 = .ok (.iconst 0, 1) := by decide +kernel
theorem dX0_clear_42 : decode cX0_clear 42 = .ok (.putfield 64, 3) := by decide +kernel
theorem dX0_clear_45 : decode cX0_clear 45 = .ok (.aload_n 0, 1) := by decide +kernel
theorem dX0_clear_46 : decode cX0_clear 46 = .ok (.iconst 0, 1) := by decide +kernel
theorem dX0_clear_47 : decode cX0_clear 47 = .ok (.putfield 67, 3) := by decide +kernel
theorem dX0_clear_50 : decode cX0_clear 50 = .ok (.return_, 1) := by decide +kernel
theorem dX0_creekBits_0 : decode cX0_creekBits 0 = .ok (.lconst 0, 1) := by decide +kernel
theorem dX0_creekBits_1 : decode cX0_creekBits 1 = .ok (.lstore_n 1, 1) := by decide +kernel
theorem dX0_creekBits_2 : decode cX0_creekBits 2 = .ok (.iconst 0, 1) := by decide +kernel
theorem dX0_creekBits_3 : decode cX0_creekBits 3 = .ok (.istore_n 3, 1) := by decide +kernel
theorem dX0_creekBits_4 : decode cX0_creekBits 4 = .ok (.iload_n 3, 1) := by decide +kernel
theorem dX0_creekBits_5 : decode cX0_creekBits 5 = .ok (.aload_n 0, 1) := by decide +kernel
theorem dX0_creekBits_6 : decode cX0_creekBits 6 = .ok (.getfield 58, 3) := by decide +kernel
theorem dX0_creekBits_9 : decode cX0_creekBits 9 = .ok (.if_icmp .ge 21, 3) := by decide +kernel
theorem dX0_creekBits_30 : decode cX0_creekBits 30 = .ok (.iconst 0, 1) := by decide +kernel
theorem dX0_creekBits_31 : decode cX0_creekBits 31 = .ok (.istore_n 3, 1) := by decide +kernel
theorem dX0_creekBits_32 : decode cX0_creekBits 32 = .ok (.iload_n 3, 1) := by decide +kernel
theorem dX0_creekBits_33 : decode cX0_creekBits 33 = .ok (.aload_n 0, 1) := by decide +kernel
theorem dX0_creekBits_34 : decode cX0_creekBits 34 = .ok (.getfield 67, 3) := by decide +kernel
theorem dX0_creekBits_37 : decode cX0_creekBits 37 = .ok (.if_icmp .ge 36, 3) := by decide +kernel
theorem dX0_creekBits_73 : decode cX0_creekBits 73 = .ok (.lload_n 1, 1) := by decide +kernel
theorem dX0_creekBits_74 : decode cX0_creekBits 74 = .ok (.lreturn, 1) := by decide +kernel
theorem dX0_field_0 : decode cX0_field 0 = .ok (.lconst 0, 1) := by decide +kernel
theorem dX0_field_1 : decode cX0_field 1 = .ok (.lstore_n 1, 1) := by decide +kernel
theorem dX0_field_2 : decode cX0_field 2 = .ok (.iconst 0, 1) := by decide +kernel
theorem dX0_field_3 : decode cX0_field 3 = .ok (.istore_n 3, 1) := by decide +kernel
theorem dX0_field_4 : decode cX0_field 4 = .ok (.iload_n 3, 1) := by decide +kernel
theorem dX0_field_5 : decode cX0_field 5 = .ok (.aload_n 0, 1) := by decide +kernel
theorem dX0_field_6 : decode cX0_field 6 = .ok (.getfield 52, 3) := by decide +kernel
theorem dX0_field_9 : decode cX0_field 9 = .ok (.if_icmp .ge 25, 3) := by decide +kernel
theorem dX0_field_34 : decode cX0_field 34 = .ok (.lload_n 1, 1) := by decide +kernel
theorem dX0_field_35 : decode cX0_field 35 = .ok (.lreturn, 1) := by decide +kernel
theorem dX0_hasHouse_0 : decode cX0_hasHouse 0 = .ok (.iload_n 1, 1) := by decide +kernel
theorem dX0_hasHouse_1 : decode cX0_hasHouse 1 = .ok (.ifCond .lt 15, 3) := by decide +kernel
theorem dX0_hasHouse_4 : decode cX0_hasHouse 4 = .ok (.iload_n 1, 1) := by decide +kernel
theorem dX0_hasHouse_5 : decode cX0_hasHouse 5 = .ok (.aload_n 0, 1) := by decide +kernel
theorem dX0_hasHouse_6 : decode cX0_hasHouse 6 = .ok (.getfield 61, 3) := by decide +kernel
theorem dX0_hasHouse_9 : decode cX0_hasHouse 9 = .ok (.if_icmp .ge 7, 3) := by decide +kernel
theorem dX0_hasHouse_16 : decode cX0_hasHouse 16 = .ok (.iconst 0, 1) := by decide +kernel
theorem dX0_hasHouse_17 : decode cX0_hasHouse 17 = .ok (.ireturn, 1) := by decide +kernel
theorem dX0_hasWidow_0 : decode cX0_hasWidow 0 = .ok (.lload_n 1, 1) := by decide +kernel
theorem dX0_hasWidow_1 : decode cX0_hasWidow 1 = .ok (.lconst 0, 1) := by decide +kernel
theorem dX0_hasWidow_2 : decode cX0_hasWidow 2 = .ok (.lcmp, 1) := by decide +kernel
theorem dX0_hasWidow_3 : decode cX0_hasWidow 3 = .ok (.ifCond .lt 17, 3) := by decide +kernel
theorem dX0_hasWidow_6 : decode cX0_hasWidow 6 = .ok (.lload_n 1, 1) := by decide +kernel
theorem dX0_hasWidow_7 : decode cX0_hasWidow 7 = .ok (.aload_n 0, 1) := by decide +kernel
theorem dX0_hasWidow_8 : decode cX0_hasWidow 8 = .ok (.getfield 64, 3) := by decide +kernel
theorem dX0_hasWidow_11 : decode cX0_hasWidow 11 = .ok (.i2l, 1) := by decide +kernel
theorem dX0_hasWidow_12 : decode cX0_hasWidow 12 = .ok (.lcmp, 1) := by decide +kernel
theorem dX0_hasWidow_13 : decode cX0_hasWidow 13 = .ok (.ifCond .ge 7, 3) := by decide +kernel
theorem dX0_hasWidow_20 : decode cX0_hasWidow 20 = .ok (.iconst 0, 1) := by decide +kernel
theorem dX0_hasWidow_21 : decode cX0_hasWidow 21 = .ok (.ireturn, 1) := by decide +kernel
theorem dX0_hasYear_0 : decode cX0_hasYear 0 = .ok (.aload_n 0, 1) := by decide +kernel
theorem dX0_hasYear_1 : decode cX0_hasYear 1 = .ok (.getfield 39, 3) := by decide +kernel
theorem dX0_hasYear_4 : decode cX0_hasYear 4 = .ok (.ifCond .le 19, 3) := by decide +kernel
theorem dX0_hasYear_23 : decode cX0_hasYear 23 = .ok (.iconst 0, 1) := by decide +kernel
theorem dX0_hasYear_24 : decode cX0_hasYear 24 = .ok (.ireturn, 1) := by decide +kernel
theorem dX0_spotOf_0 : decode cX0_spotOf 0 = .ok (.lload_n 1, 1) := by decide +kernel
theorem dX0_spotOf_1 : decode cX0_spotOf 1 = .ok (.lconst 0, 1) := by decide +kernel
theorem dX0_spotOf_2 : decode cX0_spotOf 2 = .ok (.lcmp, 1) := by decide +kernel
theorem dX0_spotOf_3 : decode cX0_spotOf 3 = .ok (.ifCond .lt 31, 3) := by decide +kernel
theorem dX0_spotOf_6 : decode cX0_spotOf 6 = .ok (.lload_n 1, 1) := by decide +kernel
theorem dX0_spotOf_7 : decode cX0_spotOf 7 = .ok (.ldc2_w 76, 3) := by decide +kernel
theorem dX0_spotOf_10 : decode cX0_spotOf 10 = .ok (.ldiv, 1) := by decide +kernel
theorem dX0_spotOf_11 : decode cX0_spotOf 11 = .ok (.aload_n 0, 1) := by decide +kernel
theorem dX0_spotOf_12 : decode cX0_spotOf 12 = .ok (.getfield 52, 3) := by decide +kernel
theorem dX0_spotOf_15 : decode cX0_spotOf 15 = .ok (.i2l, 1) := by decide +kernel
theorem dX0_spotOf_16 : decode cX0_spotOf 16 = .ok (.lcmp, 1) := by decide +kernel
theorem dX0_spotOf_17 : decode cX0_spotOf 17 = .ok (.ifCond .ge 17, 3) := by decide +kernel
theorem dX0_spotOf_34 : decode cX0_spotOf 34 = .ok (.iconst (-1), 1) := by decide +kernel
theorem dX0_spotOf_35 : decode cX0_spotOf 35 = .ok (.ireturn, 1) := by decide +kernel
theorem dX0_walkerBits_0 : decode cX0_walkerBits 0 = .ok (.iconst 1, 1) := by decide +kernel
theorem dX0_walkerBits_1 : decode cX0_walkerBits 1 = .ok (.aload_n 0, 1) := by decide +kernel
theorem dX0_walkerBits_2 : decode cX0_walkerBits 2 = .ok (.getfield 64, 3) := by decide +kernel
theorem dX0_walkerBits_5 : decode cX0_walkerBits 5 = .ok (.ishl, 1) := by decide +kernel
theorem dX0_walkerBits_6 : decode cX0_walkerBits 6 = .ok (.iconst 1, 1) := by decide +kernel
theorem dX0_walkerBits_7 : decode cX0_walkerBits 7 = .ok (.isub, 1) := by decide +kernel
theorem dX0_walkerBits_8 : decode cX0_walkerBits 8 = .ok (.istore_n 1, 1) := by decide +kernel
theorem dX0_walkerBits_9 : decode cX0_walkerBits 9 = .ok (.iconst 0, 1) := by decide +kernel
theorem dX0_walkerBits_10 : decode cX0_walkerBits 10 = .ok (.istore_n 2, 1) := by decide +kernel
theorem dX0_walkerBits_11 : decode cX0_walkerBits 11 = .ok (.iload_n 2, 1) := by decide +kernel
theorem dX0_walkerBits_12 : decode cX0_walkerBits 12 = .ok (.aload_n 0, 1) := by decide +kernel
theorem dX0_walkerBits_13 : decode cX0_walkerBits 13 = .ok (.getfield 67, 3) := by decide +kernel
theorem dX0_walkerBits_16 : decode cX0_walkerBits 16 = .ok (.if_icmp .ge 36, 3) := by decide +kernel
theorem dX0_walkerBits_52 : decode cX0_walkerBits 52 = .ok (.iload_n 1, 1) := by decide +kernel
theorem dX0_walkerBits_53 : decode cX0_walkerBits 53 = .ok (.ireturn, 1) := by decide +kernel
theorem dX4_isBlank_0 : decode cX4_isBlank 0 = .ok (.iload_n 0, 1) := by decide +kernel
theorem dX4_isBlank_1 : decode cX4_isBlank 1 = .ok (.bipush 32, 2) := by decide +kernel
theorem dX4_isBlank_3 : decode cX4_isBlank 3 = .ok (.if_icmp .eq 9, 3) := by decide +kernel
theorem dX4_isBlank_6 : decode cX4_isBlank 6 = .ok (.iload_n 0, 1) := by decide +kernel
theorem dX4_isBlank_7 : decode cX4_isBlank 7 = .ok (.bipush 10, 2) := by decide +kernel
theorem dX4_isBlank_9 : decode cX4_isBlank 9 = .ok (.if_icmp .ne 7, 3) := by decide +kernel
theorem dX4_isBlank_16 : decode cX4_isBlank 16 = .ok (.iconst 0, 1) := by decide +kernel
theorem dX4_isBlank_17 : decode cX4_isBlank 17 = .ok (.ireturn, 1) := by decide +kernel
theorem dX4_next_0 : decode cX4_next 0 = .ok (.aload_n 0, 1) := by decide +kernel
theorem dX4_next_1 : decode cX4_next 1 = .ok (.aload_n 0, 1) := by decide +kernel
theorem dX4_next_2 : decode cX4_next 2 = .ok (.getfield 35, 3) := by decide +kernel
theorem dX4_next_5 : decode cX4_next 5 = .ok (.putfield 69, 3) := by decide +kernel
theorem dX4_next_8 : decode cX4_next 8 = .ok (.aload_n 0, 1) := by decide +kernel
theorem dX4_next_9 : decode cX4_next 9 = .ok (.getfield 69, 3) := by decide +kernel
theorem dX4_next_12 : decode cX4_next 12 = .ok (.sipush 900, 3) := by decide +kernel
theorem dX4_next_15 : decode cX4_next 15 = .ok (.if_icmp .ge 33, 3) := by decide +kernel
theorem dX4_next_18 : decode cX4_next 18 = .ok (.aload_n 0, 1) := by decide +kernel
theorem dX4_next_19 : decode cX4_next 19 = .ok (.getfield 18, 3) := by decide +kernel
theorem dX4_next_22 : decode cX4_next 22 = .ok (.aload_n 0, 1) := by decide +kernel
theorem dX4_next_23 : decode cX4_next 23 = .ok (.getfield 69, 3) := by decide +kernel
theorem dX4_next_26 : decode cX4_next 26 = .ok (.invokevirtual 79, 3) := by decide +kernel
theorem dX4_next_29 : decode cX4_next 29 = .ok (.invokestatic 83, 3) := by decide +kernel
theorem dX4_next_32 : decode cX4_next 32 = .ok (.ifCond .eq 16, 3) := by decide +kernel
theorem dX4_next_48 : decode cX4_next 48 = .ok (.aload_n 0, 1) := by decide +kernel
theorem dX4_next_49 : decode cX4_next 49 = .ok (.getfield 18, 3) := by decide +kernel
theorem dX4_next_52 : decode cX4_next 52 = .ok (.aload_n 0, 1) := by decide +kernel
theorem dX4_next_53 : decode cX4_next 53 = .ok (.getfield 69, 3) := by decide +kernel
theorem dX4_next_56 : decode cX4_next 56 = .ok (.invokevirtual 79, 3) := by decide +kernel
theorem dX4_next_59 : decode cX4_next 59 = .ok (.istore_n 1, 1) := by decide +kernel
theorem dX4_next_60 : decode cX4_next 60 = .ok (.aload_n 0, 1) := by decide +kernel
theorem dX4_next_61 : decode cX4_next 61 = .ok (.aload_n 0, 1) := by decide +kernel
theorem dX4_next_62 : decode cX4_next 62 = .ok (.getfield 69, 3) := by decide +kernel
theorem dX4_next_65 : decode cX4_next 65 = .ok (.iconst 1, 1) := by decide +kernel
theorem dX4_next_66 : decode cX4_next 66 = .ok (.iadd, 1) := by decide +kernel
theorem dX4_next_67 : decode cX4_next 67 = .ok (.putfield 35, 3) := by decide +kernel
theorem dX4_next_70 : decode cX4_next 70 = .ok (.iload_n 1, 1) := by decide +kernel
theorem dX4_next_71 : decode cX4_next 71 = .ok (.iconst (-1), 1) := by decide +kernel
theorem dX4_next_72 : decode cX4_next 72 = .ok (.if_icmp .ne 11, 3) := by decide +kernel
theorem dX4_next_75 : decode cX4_next 75 = .ok (.aload_n 0, 1) := by decide +kernel
theorem dX4_next_76 : decode cX4_next 76 = .ok (.iconst 0, 1) := by decide +kernel
theorem dX4_next_77 : decode cX4_next 77 = .ok (.putfield 41, 3) := by decide +kernel
theorem dX4_next_80 : decode cX4_next 80 = .ok (.goto 122, 3) := by decide +kernel
theorem dX4_next_202 : decode cX4_next 202 = .ok (.return_, 1) := by decide +kernel
theorem dX4_read_0 : decode cX4_read 0 = .ok (.aload_n 0, 1) := by decide +kernel
theorem dX4_read_1 : decode cX4_read 1 = .ok (.getfield 25, 3) := by decide +kernel
theorem dX4_read_4 : decode cX4_read 4 = .ok (.invokevirtual 29, 3) := by decide +kernel
theorem dX4_read_7 : decode cX4_read 7 = .ok (.aload_n 0, 1) := by decide +kernel
theorem dX4_read_8 : decode cX4_read 8 = .ok (.iconst 0, 1) := by decide +kernel
theorem dX4_read_9 : decode cX4_read 9 = .ok (.putfield 32, 3) := by decide +kernel
theorem dX4_read_12 : decode cX4_read 12 = .ok (.aload_n 0, 1) := by decide +kernel
theorem dX4_read_13 : decode cX4_read 13 = .ok (.iconst (-1), 1) := by decide +kernel
theorem dX4_read_14 : decode cX4_read 14 = .ok (.putfield 9, 3) := by decide +kernel
theorem dX4_read_17 : decode cX4_read 17 = .ok (.aload_n 0, 1) := by decide +kernel
theorem dX4_read_18 : decode cX4_read 18 = .ok (.iconst 0, 1) := by decide +kernel
theorem dX4_read_19 : decode cX4_read 19 = .ok (.putfield 35, 3) := by decide +kernel
theorem dX4_read_22 : decode cX4_read 22 = .ok (.aload_n 0, 1) := by decide +kernel
theorem dX4_read_23 : decode cX4_read 23 = .ok (.invokevirtual 38, 3) := by decide +kernel
theorem dX4_read_26 : decode cX4_read 26 = .ok (.iconst 0, 1) := by decide +kernel
theorem dX4_read_27 : decode cX4_read 27 = .ok (.istore_n 1, 1) := by decide +kernel
theorem dX4_read_28 : decode cX4_read 28 = .ok (.iload_n 1, 1) := by decide +kernel
theorem dX4_read_29 : decode cX4_read 29 = .ok (.sipush 900, 3) := by decide +kernel
theorem dX4_read_32 : decode cX4_read 32 = .ok (.if_icmp .gt 101, 3) := by decide +kernel
theorem dX4_read_35 : decode cX4_read 35 = .ok (.aload_n 0, 1) := by decide +kernel
theorem dX4_read_36 : decode cX4_read 36 = .ok (.getfield 32, 3) := by decide +kernel
theorem dX4_read_39 : decode cX4_read 39 = .ok (.ifCond .ne 94, 3) := by decide +kernel
theorem dX4_read_42 : decode cX4_read 42 = .ok (.aload_n 0, 1) := by decide +kernel
theorem dX4_read_43 : decode cX4_read 43 = .ok (.getfield 41, 3) := by decide +kernel
theorem dX4_read_46 : decode cX4_read 46 = .ok (.ifCond .eq 87, 3) := by decide +kernel
theorem dX4_read_133 : decode cX4_read 133 = .ok (.return_, 1) := by decide +kernel
theorem dX5_clear_0 : decode cX5_clear 0 = .ok (.aload_n 0, 1) := by decide +kernel
theorem dX5_clear_1 : decode cX5_clear 1 = .ok (.getfield 15, 3) := by decide +kernel
theorem dX5_clear_4 : decode cX5_clear 4 = .ok (.iload_n 1, 1) := by decide +kernel
theorem dX5_clear_5 : decode cX5_clear 5 = .ok (.iconst 1, 1) := by decide +kernel
theorem dX5_clear_6 : decode cX5_clear 6 = .ok (.bastore, 1) := by decide +kernel
theorem dX5_clear_7 : decode cX5_clear 7 = .ok (.aload_n 0, 1) := by decide +kernel
theorem dX5_clear_8 : decode cX5_clear 8 = .ok (.getfield 19, 3) := by decide +kernel
theorem dX5_clear_11 : decode cX5_clear 11 = .ok (.iload_n 1, 1) := by decide +kernel
theorem dX5_clear_12 : decode cX5_clear 12 = .ok (.iload_n 2, 1) := by decide +kernel
theorem dX5_clear_13 : decode cX5_clear 13 = .ok (.iastore, 1) := by decide +kernel
theorem dX5_clear_14 : decode cX5_clear 14 = .ok (.aload_n 0, 1) := by decide +kernel
theorem dX5_clear_15 : decode cX5_clear 15 = .ok (.getfield 23, 3) := by decide +kernel
theorem dX5_clear_18 : decode cX5_clear 18 = .ok (.iload_n 1, 1) := by decide +kernel
theorem dX5_clear_19 : decode cX5_clear 19 = .ok (.iload_n 3, 1) := by decide +kernel
theorem dX5_clear_20 : decode cX5_clear 20 = .ok (.iastore, 1) := by decide +kernel
theorem dX5_clear_21 : decode cX5_clear 21 = .ok (.iconst 0, 1) := by decide +kernel
theorem dX5_clear_22 : decode cX5_clear 22 = .ok (.istore 4, 2) := by decide +kernel
theorem dX5_clear_24 : decode cX5_clear 24 = .ok (.iload 4, 2) := by decide +kernel
theorem dX5_clear_26 : decode cX5_clear 26 = .ok (.bipush 60, 2) := by decide +kernel
theorem dX5_clear_28 : decode cX5_clear 28 = .ok (.if_icmp .ge 22, 3) := by decide +kernel
theorem dX5_clear_31 : decode cX5_clear 31 = .ok (.aload_n 0, 1) := by decide +kernel
theorem dX5_clear_32 : decode cX5_clear 32 = .ok (.getfield 9, 3) := by decide +kernel
theorem dX5_clear_35 : decode cX5_clear 35 = .ok (.iload_n 1, 1) := by decide +kernel
theorem dX5_clear_36 : decode cX5_clear 36 = .ok (.bipush 60, 2) := by decide +kernel
theorem dX5_clear_38 : decode cX5_clear 38 = .ok (.imul, 1) := by decide +kernel
theorem dX5_clear_39 : decode cX5_clear 39 = .ok (.iload 4, 2) := by decide +kernel
theorem dX5_clear_41 : decode cX5_clear 41 = .ok (.iadd, 1) := by decide +kernel
theorem dX5_clear_42 : decode cX5_clear 42 = .ok (.lconst 0, 1) := by decide +kernel
theorem dX5_clear_43 : decode cX5_clear 43 = .ok (.lastore, 1) := by decide +kernel
theorem dX5_clear_44 : decode cX5_clear 44 = .ok (.iinc 4 1, 3) := by decide +kernel
theorem dX5_clear_47 : decode cX5_clear 47 = .ok (.goto (-23), 3) := by decide +kernel
theorem dX5_clear_50 : decode cX5_clear 50 = .ok (.return_, 1) := by decide +kernel
theorem dX5_empty_0 : decode cX5_empty 0 = .ok (.aload_n 0, 1) := by decide +kernel
theorem dX5_empty_1 : decode cX5_empty 1 = .ok (.getfield 15, 3) := by decide +kernel
theorem dX5_empty_4 : decode cX5_empty 4 = .ok (.iload_n 1, 1) := by decide +kernel
theorem dX5_empty_5 : decode cX5_empty 5 = .ok (.baload, 1) := by decide +kernel
theorem dX5_empty_6 : decode cX5_empty 6 = .ok (.ifCond .ne 7, 3) := by decide +kernel
theorem dX5_empty_9 : decode cX5_empty 9 = .ok (.iconst 1, 1) := by decide +kernel
theorem dX5_empty_10 : decode cX5_empty 10 = .ok (.goto 4, 3) := by decide +kernel
theorem dX5_empty_14 : decode cX5_empty 14 = .ok (.ireturn, 1) := by decide +kernel
theorem dX5_many_0 : decode cX5_many 0 = .ok (.iconst 0, 1) := by decide +kernel
theorem dX5_many_1 : decode cX5_many 1 = .ok (.istore_n 1, 1) := by decide +kernel
theorem dX5_many_2 : decode cX5_many 2 = .ok (.iconst 0, 1) := by decide +kernel
theorem dX5_many_3 : decode cX5_many 3 = .ok (.istore_n 2, 1) := by decide +kernel
theorem dX5_many_4 : decode cX5_many 4 = .ok (.iload_n 2, 1) := by decide +kernel
theorem dX5_many_5 : decode cX5_many 5 = .ok (.iconst 4, 1) := by decide +kernel
theorem dX5_many_6 : decode cX5_many 6 = .ok (.if_icmp .ge 21, 3) := by decide +kernel
theorem dX5_many_9 : decode cX5_many 9 = .ok (.iload_n 1, 1) := by decide +kernel
theorem dX5_many_10 : decode cX5_many 10 = .ok (.aload_n 0, 1) := by decide +kernel
theorem dX5_many_11 : decode cX5_many 11 = .ok (.getfield 15, 3) := by decide +kernel
theorem dX5_many_14 : decode cX5_many 14 = .ok (.iload_n 2, 1) := by decide +kernel
theorem dX5_many_15 : decode cX5_many 15 = .ok (.baload, 1) := by decide +kernel
theorem dX5_many_16 : decode cX5_many 16 = .ok (.invokestatic 26, 3) := by decide +kernel
theorem dX5_many_19 : decode cX5_many 19 = .ok (.iadd, 1) := by decide +kernel
theorem dX5_many_20 : decode cX5_many 20 = .ok (.istore_n 1, 1) := by decide +kernel
theorem dX5_many_21 : decode cX5_many 21 = .ok (.iinc 2 1, 3) := by decide +kernel
theorem dX5_many_24 : decode cX5_many 24 = .ok (.goto (-20), 3) := by decide +kernel
theorem dX5_many_27 : decode cX5_many 27 = .ok (.iload_n 1, 1) := by decide +kernel
theorem dX5_many_28 : decode cX5_many 28 = .ok (.ireturn, 1) := by decide +kernel
theorem dX6_begin_0 : decode cX6_begin 0 = .ok (.aload_n 0, 1) := by decide +kernel
theorem dX6_begin_1 : decode cX6_begin 1 = .ok (.aload_n 1, 1) := by decide +kernel
theorem dX6_begin_2 : decode cX6_begin 2 = .ok (.invokevirtual 76, 3) := by decide +kernel
theorem dX6_begin_5 : decode cX6_begin 5 = .ok (.putfield 80, 3) := by decide +kernel
theorem dX6_begin_8 : decode cX6_begin 8 = .ok (.aload_n 0, 1) := by decide +kernel
theorem dX6_begin_9 : decode cX6_begin 9 = .ok (.aload_n 1, 1) := by decide +kernel
theorem dX6_begin_10 : decode cX6_begin 10 = .ok (.getfield 83, 3) := by decide +kernel
theorem dX6_begin_13 : decode cX6_begin 13 = .ok (.putfield 86, 3) := by decide +kernel
theorem dX6_begin_16 : decode cX6_begin 16 = .ok (.aload_n 0, 1) := by decide +kernel
theorem dX6_begin_17 : decode cX6_begin 17 = .ok (.getfield 34, 3) := by decide +kernel
theorem dX6_begin_20 : decode cX6_begin 20 = .ok (.iconst 0, 1) := by decide +kernel
theorem dX6_begin_21 : decode cX6_begin 21 = .ok (.lconst 0, 1) := by decide +kernel
theorem dX6_begin_22 : decode cX6_begin 22 = .ok (.lastore, 1) := by decide +kernel
theorem dX6_begin_23 : decode cX6_begin 23 = .ok (.aload_n 0, 1) := by decide +kernel
theorem dX6_begin_24 : decode cX6_begin 24 = .ok (.getfield 37, 3) := by decide +kernel
theorem dX6_begin_27 : decode cX6_begin 27 = .ok (.iconst 0, 1) := by decide +kernel
theorem dX6_begin_28 : decode cX6_begin 28 = .ok (.lconst 0, 1) := by decide +kernel
theorem dX6_begin_29 : decode cX6_begin 29 = .ok (.lastore, 1) := by decide +kernel
theorem dX6_begin_30 : decode cX6_begin 30 = .ok (.aload_n 0, 1) := by decide +kernel
theorem dX6_begin_31 : decode cX6_begin 31 = .ok (.getfield 40, 3) := by decide +kernel
theorem dX6_begin_34 : decode cX6_begin 34 = .ok (.iconst 0, 1) := by decide +kernel
theorem dX6_begin_35 : decode cX6_begin 35 = .ok (.lconst 0, 1) := by decide +kernel
theorem dX6_begin_36 : decode cX6_begin 36 = .ok (.lastore, 1) := by decide +kernel
theorem dX6_begin_37 : decode cX6_begin 37 = .ok (.iconst 0, 1) := by decide +kernel
theorem dX6_begin_38 : decode cX6_begin 38 = .ok (.istore_n 2, 1) := by decide +kernel
theorem dX6_begin_39 : decode cX6_begin 39 = .ok (.iload_n 2, 1) := by decide +kernel
theorem dX6_begin_40 : decode cX6_begin 40 = .ok (.bipush 7, 2) := by decide +kernel
theorem dX6_begin_42 : decode cX6_begin 42 = .ok (.if_icmp .ge 37, 3) := by decide +kernel
theorem dX6_begin_45 : decode cX6_begin 45 = .ok (.aload_n 0, 1) := by decide +kernel
theorem dX6_begin_46 : decode cX6_begin 46 = .ok (.getfield 15, 3) := by decide +kernel
theorem dX6_begin_49 : decode cX6_begin 49 = .ok (.iload_n 2, 1) := by decide +kernel
theorem dX6_begin_50 : decode cX6_begin 50 = .ok (.iconst (-1), 1) := by decide +kernel
theorem dX6_begin_51 : decode cX6_begin 51 = .ok (.iastore, 1) := by decide +kernel
theorem dX6_begin_52 : decode cX6_begin 52 = .ok (.aload_n 0, 1) := by decide +kernel
theorem dX6_begin_53 : decode cX6_begin 53 = .ok (.getfield 18, 3) := by decide +kernel
theorem dX6_begin_56 : decode cX6_begin 56 = .ok (.iload_n 2, 1) := by decide +kernel
theorem dX6_begin_57 : decode cX6_begin 57 = .ok (.iconst 0, 1) := by decide +kernel
theorem dX6_begin_58 : decode cX6_begin 58 = .ok (.iastore, 1) := by decide +kernel
theorem dX6_begin_59 : decode cX6_begin 59 = .ok (.aload_n 0, 1) := by decide +kernel
theorem dX6_begin_60 : decode cX6_begin 60 = .ok (.getfield 21, 3) := by decide +kernel
theorem dX6_begin_63 : decode cX6_begin 63 = .ok (.iload_n 2, 1) := by decide +kernel
theorem dX6_begin_64 : decode cX6_begin 64 = .ok (.lconst 0, 1) := by decide +kernel
theorem dX6_begin_65 : decode cX6_begin 65 = .ok (.lastore, 1) := by decide +kernel
theorem dX6_begin_66 : decode cX6_begin 66 = .ok (.aload_n 0, 1) := by decide +kernel
theorem dX6_begin_67 : decode cX6_begin 67 = .ok (.getfield 25, 3) := by decide +kernel
theorem dX6_begin_70 : decode cX6_begin 70 = .ok (.iload_n 2, 1) := by decide +kernel
theorem dX6_begin_71 : decode cX6_begin 71 = .ok (.iconst 0, 1) := by decide +kernel
theorem dX6_begin_72 : decode cX6_begin 72 = .ok (.iastore, 1) := by decide +kernel
theorem dX6_begin_73 : decode cX6_begin 73 = .ok (.iinc 2 1, 3) := by decide +kernel
theorem dX6_begin_76 : decode cX6_begin 76 = .ok (.goto (-37), 3) := by decide +kernel
theorem dX6_begin_79 : decode cX6_begin 79 = .ok (.iconst 0, 1) := by decide +kernel
theorem dX6_begin_80 : decode cX6_begin 80 = .ok (.istore_n 2, 1) := by decide +kernel
theorem dX6_begin_81 : decode cX6_begin 81 = .ok (.iload_n 2, 1) := by decide +kernel
theorem dX6_begin_82 : decode cX6_begin 82 = .ok (.bipush 6, 2) := by decide +kernel
theorem dX6_begin_84 : decode cX6_begin 84 = .ok (.if_icmp .ge 40, 3) := by decide +kernel
theorem dX6_begin_87 : decode cX6_begin 87 = .ok (.aload_n 0, 1) := by decide +kernel
theorem dX6_begin_88 : decode cX6_begin 88 = .ok (.getfield 31, 3) := by decide +kernel
theorem dX6_begin_91 : decode cX6_begin 91 = .ok (.iload_n 2, 1) := by decide +kernel
theorem dX6_begin_92 : decode cX6_begin 92 = .ok (.iload_n 2, 1) := by decide +kernel
theorem dX6_begin_93 : decode cX6_begin 93 = .ok (.aload_n 0, 1) := by decide +kernel
theorem dX6_begin_94 : decode cX6_begin 94 = .ok (.getfield 86, 3) := by decide +kernel
theorem dX6_begin_97 : decode cX6_begin 97 = .ok (.if_icmp .ge 12, 3) := by decide +kernel
theorem dX6_begin_109 : decode cX6_begin 109 = .ok (.iconst (-1), 1) := by decide +kernel
theorem dX6_begin_110 : decode cX6_begin 110 = .ok (.iastore, 1) := by decide +kernel
theorem dX6_begin_111 : decode cX6_begin 111 = .ok (.aload_n 0, 1) := by decide +kernel
theorem dX6_begin_112 : decode cX6_begin 112 = .ok (.getfield 28, 3) := by decide +kernel
theorem dX6_begin_115 : decode cX6_begin 115 = .ok (.iload_n 2, 1) := by decide +kernel
theorem dX6_begin_116 : decode cX6_begin 116 = .ok (.iconst 0, 1) := by decide +kernel
theorem dX6_begin_117 : decode cX6_begin 117 = .ok (.iastore, 1) := by decide +kernel
theorem dX6_begin_118 : decode cX6_begin 118 = .ok (.iinc 2 1, 3) := by decide +kernel
theorem dX6_begin_121 : decode cX6_begin 121 = .ok (.goto (-40), 3) := by decide +kernel
theorem dX6_begin_124 : decode cX6_begin 124 = .ok (.return_, 1) := by decide +kernel
theorem dX6_tell_0 : decode cX6_tell 0 = .ok (.aload_n 0, 1) := by decide +kernel
theorem dX6_tell_1 : decode cX6_tell 1 = .ok (.aload_n 1, 1) := by decide +kernel
theorem dX6_tell_2 : decode cX6_tell 2 = .ok (.invokevirtual 43, 3) := by decide +kernel
theorem dX6_tell_5 : decode cX6_tell 5 = .ok (.iconst 0, 1) := by decide +kernel
theorem dX6_tell_6 : decode cX6_tell 6 = .ok (.istore_n 3, 1) := by decide +kernel
theorem dX6_tell_7 : decode cX6_tell 7 = .ok (.iload_n 3, 1) := by decide +kernel
theorem dX6_tell_8 : decode cX6_tell 8 = .ok (.aload_n 1, 1) := by decide +kernel
theorem dX6_tell_9 : decode cX6_tell 9 = .ok (.getfield 47, 3) := by decide +kernel
theorem dX6_tell_12 : decode cX6_tell 12 = .ok (.if_icmp .ge 77, 3) := by decide +kernel
theorem dX6_tell_89 : decode cX6_tell 89 = .ok (.return_, 1) := by decide +kernel
theorem dX7_asNow_0 : decode cX7_asNow 0 = .ok (.aload_n 0, 1) := by decide +kernel
theorem dX7_asNow_1 : decode cX7_asNow 1 = .ok (.aload_n 1, 1) := by decide +kernel
theorem dX7_asNow_2 : decode cX7_asNow 2 = .ok (.getfield 9, 3) := by decide +kernel
theorem dX7_asNow_5 : decode cX7_asNow 5 = .ok (.putfield 15, 3) := by decide +kernel
theorem dX7_asNow_8 : decode cX7_asNow 8 = .ok (.aload_n 0, 1) := by decide +kernel
theorem dX7_asNow_9 : decode cX7_asNow 9 = .ok (.aload_n 1, 1) := by decide +kernel
theorem dX7_asNow_10 : decode cX7_asNow 10 = .ok (.invokevirtual 18, 3) := by decide +kernel
theorem dX7_asNow_13 : decode cX7_asNow 13 = .ok (.putfield 22, 3) := by decide +kernel
theorem dX7_asNow_16 : decode cX7_asNow 16 = .ok (.aload_n 0, 1) := by decide +kernel
theorem dX7_asNow_17 : decode cX7_asNow 17 = .ok (.aload_n 1, 1) := by decide +kernel
theorem dX7_asNow_18 : decode cX7_asNow 18 = .ok (.invokevirtual 25, 3) := by decide +kernel
theorem dX7_asNow_21 : decode cX7_asNow 21 = .ok (.putfield 29, 3) := by decide +kernel
theorem dX7_asNow_24 : decode cX7_asNow 24 = .ok (.aload_n 0, 1) := by decide +kernel
theorem dX7_asNow_25 : decode cX7_asNow 25 = .ok (.iconst (-1), 1) := by decide +kernel
theorem dX7_asNow_26 : decode cX7_asNow 26 = .ok (.putfield 33, 3) := by decide +kernel
theorem dX7_asNow_29 : decode cX7_asNow 29 = .ok (.aload_n 0, 1) := by decide +kernel
theorem dX7_asNow_30 : decode cX7_asNow 30 = .ok (.iconst (-1), 1) := by decide +kernel
theorem dX7_asNow_31 : decode cX7_asNow 31 = .ok (.putfield 36, 3) := by decide +kernel
theorem dX7_asNow_34 : decode cX7_asNow 34 = .ok (.aload_n 0, 1) := by decide +kernel
theorem dX7_asNow_35 : decode cX7_asNow 35 = .ok (.iconst (-1), 1) := by decide +kernel
theorem dX7_asNow_36 : decode cX7_asNow 36 = .ok (.putfield 39, 3) := by decide +kernel
theorem dX7_asNow_39 : decode cX7_asNow 39 = .ok (.return_, 1) := by decide +kernel
theorem dX8_byteAt_0 : decode cX8_byteAt 0 = .ok (.iload_n 1, 1) := by decide +kernel
theorem dX8_byteAt_1 : decode cX8_byteAt 1 = .ok (.ifCond .lt 24, 3) := by decide +kernel
theorem dX8_byteAt_4 : decode cX8_byteAt 4 = .ok (.iload_n 1, 1) := by decide +kernel
theorem dX8_byteAt_5 : decode cX8_byteAt 5 = .ok (.aload_n 0, 1) := by decide +kernel
theorem dX8_byteAt_6 : decode cX8_byteAt 6 = .ok (.getfield 15, 3) := by decide +kernel
theorem dX8_byteAt_9 : decode cX8_byteAt 9 = .ok (.if_icmp .ge 16, 3) := by decide +kernel
theorem dX8_byteAt_25 : decode cX8_byteAt 25 = .ok (.iconst (-1), 1) := by decide +kernel
theorem dX8_byteAt_26 : decode cX8_byteAt 26 = .ok (.ireturn, 1) := by decide +kernel
theorem dX8_put_0 : decode cX8_put 0 = .ok (.bipush 24, 2) := by decide +kernel
theorem dX8_put_2 : decode cX8_put 2 = .ok (.istore_n 2, 1) := by decide +kernel
theorem dX8_put_3 : decode cX8_put 3 = .ok (.iload_n 2, 1) := by decide +kernel
theorem dX8_put_4 : decode cX8_put 4 = .ok (.ifCond .lt 42, 3) := by decide +kernel
theorem dX8_put_7 : decode cX8_put 7 = .ok (.aload_n 0, 1) := by decide +kernel
theorem dX8_put_8 : decode cX8_put 8 = .ok (.getfield 15, 3) := by decide +kernel
theorem dX8_put_11 : decode cX8_put 11 = .ok (.sipush 900, 3) := by decide +kernel
theorem dX8_put_14 : decode cX8_put 14 = .ok (.if_icmp .ge 32, 3) := by decide +kernel
theorem dX8_put_17 : decode cX8_put 17 = .ok (.aload_n 0, 1) := by decide +kernel
theorem dX8_put_18 : decode cX8_put 18 = .ok (.getfield 9, 3) := by decide +kernel
theorem dX8_put_21 : decode cX8_put 21 = .ok (.aload_n 0, 1) := by decide +kernel
theorem dX8_put_22 : decode cX8_put 22 = .ok (.getfield 15, 3) := by decide +kernel
theorem dX8_put_25 : decode cX8_put 25 = .ok (.iload_n 1, 1) := by decide +kernel
theorem dX8_put_26 : decode cX8_put 26 = .ok (.iload_n 2, 1) := by decide +kernel
theorem dX8_put_27 : decode cX8_put 27 = .ok (.ishr, 1) := by decide +kernel
theorem dX8_put_28 : decode cX8_put 28 = .ok (.i2b, 1) := by decide +kernel
theorem dX8_put_29 : decode cX8_put 29 = .ok (.bastore, 1) := by decide +kernel
theorem dX8_put_30 : decode cX8_put 30 = .ok (.aload_n 0, 1) := by decide +kernel
theorem dX8_put_31 : decode cX8_put 31 = .ok (.dup, 1) := by decide +kernel
theorem dX8_put_32 : decode cX8_put 32 = .ok (.getfield 15, 3) := by decide +kernel
theorem dX8_put_35 : decode cX8_put 35 = .ok (.iconst 1, 1) := by decide +kernel
theorem dX8_put_36 : decode cX8_put 36 = .ok (.iadd, 1) := by decide +kernel
theorem dX8_put_37 : decode cX8_put 37 = .ok (.putfield 15, 3) := by decide +kernel
theorem dX8_put_40 : decode cX8_put 40 = .ok (.iinc 2 (-8), 3) := by decide +kernel
theorem dX8_put_43 : decode cX8_put 43 = .ok (.goto (-40), 3) := by decide +kernel
theorem dX8_put_46 : decode cX8_put 46 = .ok (.return_, 1) := by decide +kernel
theorem dX9_oneIf_0 : decode cX9_oneIf 0 = .ok (.iload_n 0, 1) := by decide +kernel
theorem dX9_oneIf_1 : decode cX9_oneIf 1 = .ok (.ifCond .eq 7, 3) := by decide +kernel
theorem dX9_oneIf_8 : decode cX9_oneIf 8 = .ok (.iconst 0, 1) := by decide +kernel
theorem dX9_oneIf_9 : decode cX9_oneIf 9 = .ok (.ireturn, 1) := by decide +kernel
set_option maxHeartbeats 4000000 in
set_option maxRecDepth 100000 in
theorem f_X0_hasWidow (l : Launch) (G : va_G) (cI cJ cZ cB cQ : ClassId) (sz : Nat) (h0 : Nat) (b : Nat → Nat) (p0 : Int64) : CI l yX0_hasWidow (wl_ yX0_hasWidow cX0_hasWidow 3 (some .boolean)) ({ frames := 0, cells := 0, slots := 0, locals := 0 } : Room) G (TY cI cJ cZ cB cQ) [.ref h0, .long p0] [(h0, oX0 b 0 0 0 0 0 0 0 0 0 0)] sz (fun (r : Int32) (u : Unit) => r = 0) (fun _ : Unit => [(h0, oX0 b 0 0 0 0 0 0 0 0 0 0)]) 0 0 := by
  refine CI.goz (cc := cX0_hasWidow) (maxL := 3) (ret := (some .boolean)) (by decide) rfl (Nat.le_of_ble_eq_true rfl) ?_
  intro p e s m below meth c A ls Q hBd hret
  obtain ⟨hx, hb, hr, hml, hts, hown, hlk, hnm, hP, hK, hD, hA, hZ, hl⟩ := hBd
  have hown : s.vm.findClass RX0 = some m.cls := hown
  have hl : lv_has ls 3 [(0, .ref h0), (1, .long p0)] := hl
  have hS : va_S A s.heap s.heap [] := va_S.rf
  refine lv_lload_n hx hb dX0_hasWidow_0 rfl (lv_at hl 1 rfl) ?_
  refine lv_lconst (v := 0) hx hb dX0_hasWidow_1 (by decide) ?_
  refine W.lcmp hx hb dX0_hasWidow_2 ?_
  refine lv_if_lt (tgt := 20) hx hb dX0_hasWidow_3 (by decide) (fun c1 => ?_) (fun c1 => ?_)
  · have c1 := c_lt rfl kl_0 c1
    refine lv_iconst (v := 0) hx hb dX0_hasWidow_20 (by decide) ?_
    exact hret _ _ _ _ 0 () hP hD hS dX0_hasWidow_21 rfl rfl
  · have c1 := c_nlt rfl kl_0 c1
    refine lv_lload_n hx hb dX0_hasWidow_6 rfl (lv_at hl 1 rfl) ?_
    refine lv_aload_n hx hb dX0_hasWidow_7 rfl (lv_at hl 0 rfl) ?_
    refine va_get (D := G) (ci := 0) (v := .int 0) (C := RX0) (T := TX0) (N := 19) hx hb hts iG_X0 hown hK hP 0 rfl rfl 8 (by decide) (hts _ w_86) (fun _ h9 => h9) rfl dX0_hasWidow_8 ?_
    refine lv_i2l (v := 0) hx hb dX0_hasWidow_11 (by decide) ?_
    refine W.lcmp hx hb dX0_hasWidow_12 ?_
    refine lv_if_ge (tgt := 20) hx hb dX0_hasWidow_13 (by decide) (fun c3 => ?_) (fun c3 => absurd (c_nge rfl kl_0 c3) (by omega))
    have c3 := c_ge rfl kl_0 c3
    refine lv_iconst (v := 0) hx hb dX0_hasWidow_20 (by decide) ?_
    exact hret _ _ _ _ 0 () hP hD hS dX0_hasWidow_21 rfl rfl
set_option maxHeartbeats 4000000 in
set_option maxRecDepth 100000 in
theorem f_X0_hasHouse (l : Launch) (G : va_G) (cI cJ cZ cB cQ : ClassId) (sz : Nat) (h0 : Nat) (b : Nat → Nat) (p0 : Int32) : CI l yX0_hasHouse (wl_ yX0_hasHouse cX0_hasHouse 2 (some .boolean)) ({ frames := 0, cells := 0, slots := 0, locals := 0 } : Room) G (TY cI cJ cZ cB cQ) [.ref h0, .int p0] [(h0, oX0 b 0 0 0 0 0 0 0 0 0 0)] sz (fun (r : Int32) (u : Unit) => r = 0) (fun _ : Unit => [(h0, oX0 b 0 0 0 0 0 0 0 0 0 0)]) 0 0 := by
  refine CI.goz (cc := cX0_hasHouse) (maxL := 2) (ret := (some .boolean)) (by decide) rfl (Nat.le_of_ble_eq_true rfl) ?_
  intro p e s m below meth c A ls Q hBd hret
  obtain ⟨hx, hb, hr, hml, hts, hown, hlk, hnm, hP, hK, hD, hA, hZ, hl⟩ := hBd
  have hown : s.vm.findClass RX0 = some m.cls := hown
  have hl : lv_has ls 2 [(0, .ref h0), (1, .int p0)] := hl
  have hS : va_S A s.heap s.heap [] := va_S.rf
  refine lv_iload_n hx hb dX0_hasHouse_0 rfl (lv_at hl 1 rfl) ?_
  refine lv_if_lt (tgt := 16) hx hb dX0_hasHouse_1 (by decide) (fun c1 => ?_) (fun c1 => ?_)
  · have c1 := i_lt rfl ki_0 c1
    refine lv_iconst (v := 0) hx hb dX0_hasHouse_16 (by decide) ?_
    exact hret _ _ _ _ 0 () hP hD hS dX0_hasHouse_17 rfl rfl
  · have c1 := i_nlt rfl ki_0 c1
    refine lv_iload_n hx hb dX0_hasHouse_4 rfl (lv_at hl 1 rfl) ?_
    refine lv_aload_n hx hb dX0_hasHouse_5 rfl (lv_at hl 0 rfl) ?_
    refine va_get (D := G) (ci := 0) (v := .int 0) (C := RX0) (T := TX0) (N := 19) hx hb hts iG_X0 hown hK hP 0 rfl rfl 7 (by decide) (hts _ w_80) (fun _ h9 => h9) rfl dX0_hasHouse_6 ?_
    refine lv_icmp_ge (tgt := 16) hx hb dX0_hasHouse_9 (by decide) (fun c2 => ?_) (fun c2 => absurd (i_nle ki_0 rfl c2) (by omega))
    have c2 := i_le ki_0 rfl c2
    refine lv_iconst (v := 0) hx hb dX0_hasHouse_16 (by decide) ?_
    exact hret _ _ _ _ 0 () hP hD hS dX0_hasHouse_17 rfl rfl
set_option maxHeartbeats 4000000 in
set_option maxRecDepth 100000 in
theorem f_X0_hasYear (l : Launch) (G : va_G) (cI cJ cZ cB cQ : ClassId) (sz : Nat) (h0 : Nat) (b : Nat → Nat) (p0 : Int32) : CI l yX0_hasYear (wl_ yX0_hasYear cX0_hasYear 2 (some .boolean)) ({ frames := 0, cells := 0, slots := 0, locals := 0 } : Room) G (TY cI cJ cZ cB cQ) [.ref h0, .int p0] [(h0, oX0 b 0 0 0 0 0 0 0 0 0 0)] sz (fun (r : Int32) (u : Unit) => r = 0) (fun _ : Unit => [(h0, oX0 b 0 0 0 0 0 0 0 0 0 0)]) 0 0 := by
  refine CI.goz (cc := cX0_hasYear) (maxL := 2) (ret := (some .boolean)) (by decide) rfl (Nat.le_of_ble_eq_true rfl) ?_
  intro p e s m below meth c A ls Q hBd hret
  obtain ⟨hx, hb, hr, hml, hts, hown, hlk, hnm, hP, hK, hD, hA, hZ, hl⟩ := hBd
  have hown : s.vm.findClass RX0 = some m.cls := hown
  have hl : lv_has ls 2 [(0, .ref h0), (1, .int p0)] := hl
  have hS : va_S A s.heap s.heap [] := va_S.rf
  refine lv_aload_n hx hb dX0_hasYear_0 rfl (lv_at hl 0 rfl) ?_
  refine va_get (D := G) (ci := 0) (v := .int 0) (C := RX0) (T := TX0) (N := 19) hx hb hts iG_X0 hown hK hP 0 rfl rfl 0 (by decide) (hts _ w_55) (fun _ h9 => h9) rfl dX0_hasYear_1 ?_
  refine lv_if_le (tgt := 23) hx hb dX0_hasYear_4 (by decide) (fun c1 => ?_) (fun c1 => absurd (by decide) c1)
  refine lv_iconst (v := 0) hx hb dX0_hasYear_23 (by decide) ?_
  exact hret _ _ _ _ 0 () hP hD hS dX0_hasYear_24 rfl rfl
set_option maxHeartbeats 4000000 in
set_option maxRecDepth 100000 in
theorem f_X0_spotOf (l : Launch) (G : va_G) (cI cJ cZ cB cQ : ClassId) (sz : Nat) (h0 : Nat) (b : Nat → Nat) (p0 : Int64) : CI l yX0_spotOf (wl_ yX0_spotOf cX0_spotOf 3 (some .int)) ({ frames := 0, cells := 0, slots := 0, locals := 0 } : Room) G (TY cI cJ cZ cB cQ) [.ref h0, .long p0] [(h0, oX0 b 0 0 0 0 0 0 0 0 0 0)] sz (fun (r : Int32) (u : Unit) => r = (-1)) (fun _ : Unit => [(h0, oX0 b 0 0 0 0 0 0 0 0 0 0)]) 0 0 := by
  refine CI.go (cc := cX0_spotOf) (maxL := 3) (ret := (some .int)) (by decide) rfl (Nat.le_of_ble_eq_true rfl) ?_
  intro p e s m below meth c A ls Q hBd hret
  obtain ⟨hx, hb, hr, hml, hts, hown, hlk, hnm, hP, hK, hD, hA, hZ, hl⟩ := hBd
  have hown : s.vm.findClass RX0 = some m.cls := hown
  have hl : lv_has ls 3 [(0, .ref h0), (1, .long p0)] := hl
  have hS : va_S A s.heap s.heap [] := va_S.rf
  refine lv_lload_n hx hb dX0_spotOf_0 rfl (lv_at hl 1 rfl) ?_
  refine lv_lconst (v := 0) hx hb dX0_spotOf_1 (by decide) ?_
  refine W.lcmp hx hb dX0_spotOf_2 ?_
  refine lv_if_lt (tgt := 34) hx hb dX0_spotOf_3 (by decide) (fun c1 => ?_) (fun c1 => ?_)
  · have c1 := c_lt rfl kl_0 c1
    refine lv_iconst (v := (-1)) hx hb dX0_spotOf_34 (by decide) ?_
    exact hret _ _ _ _ (-1) () hP hD hS dX0_spotOf_35 rfl
  · have c1 := c_nlt rfl kl_0 c1
    refine lv_lload_n hx hb dX0_spotOf_6 rfl (lv_at hl 1 rfl) ?_
    refine lv_ldc2 (v := 10) hx hb hown (hts _ w_657) dX0_spotOf_7 ?_
    refine lv_ldiv hx hb dX0_spotOf_10 (by decide) ?_
    refine lv_topl (fun v2 ev2 => ?_)
    have tv2 : v2.toInt = p0.toInt / 10 := tl_div rfl (by omega) (by decide) kl_10 ev2
    refine lv_aload_n hx hb dX0_spotOf_11 rfl (lv_at hl 0 rfl) ?_
    refine va_get (D := G) (ci := 0) (v := .int 0) (C := RX0) (T := TX0) (N := 19) hx hb hts iG_X0 hown hK hP 0 rfl rfl 4 (by decide) (hts _ w_71) (fun _ h9 => h9) rfl dX0_spotOf_12 ?_
    refine lv_i2l (v := 0) hx hb dX0_spotOf_15 (by decide) ?_
    refine W.lcmp hx hb dX0_spotOf_16 ?_
    refine lv_if_ge (tgt := 34) hx hb dX0_spotOf_17 (by decide) (fun c4 => ?_) (fun c4 => absurd (c_nge tv2 kl_0 c4) (by omega))
    have c4 := c_ge tv2 kl_0 c4
    refine lv_iconst (v := (-1)) hx hb dX0_spotOf_34 (by decide) ?_
    exact hret _ _ _ _ (-1) () hP hD hS dX0_spotOf_35 rfl
set_option maxHeartbeats 4000000 in
set_option maxRecDepth 100000 in
theorem f_X0_field (l : Launch) (G : va_G) (cI cJ cZ cB cQ : ClassId) (sz : Nat) (h0 : Nat) (b : Nat → Nat) : CL l yX0_field (wl_ yX0_field cX0_field 4 (some .long)) ({ frames := 0, cells := 0, slots := 0, locals := 0 } : Room) G (TY cI cJ cZ cB cQ) [.ref h0] [(h0, oX0 b 0 0 0 0 0 0 0 0 0 0)] sz (fun (r : Int64) (u : Unit) => r = 0) (fun _ : Unit => [(h0, oX0 b 0 0 0 0 0 0 0 0 0 0)]) 0 0 := by
  refine CL.go (cc := cX0_field) (maxL := 4) (ret := (some .long)) (by decide) rfl (Nat.le_of_ble_eq_true rfl) ?_
  intro p e s m below meth c A ls Q hBd hret
  obtain ⟨hx, hb, hr, hml, hts, hown, hlk, hnm, hP, hK, hD, hA, hZ, hl⟩ := hBd
  have hown : s.vm.findClass RX0 = some m.cls := hown
  have hl : lv_has ls 4 [(0, .ref h0)] := hl
  have hS : va_S A s.heap s.heap [] := va_S.rf
  refine lv_lconst (v := 0) hx hb dX0_field_0 (by decide) ?_
  refine lv_lstore_n (lv' := [(1, .long 0), (0, .ref h0)]) hx hb dX0_field_1 rfl hl (by decide) rfl (fun ls hl => ?_)
  refine lv_iconst (v := 0) hx hb dX0_field_2 (by decide) ?_
  refine lv_istore_n (lv' := [(3, .int 0), (1, .long 0), (0, .ref h0)]) hx hb dX0_field_3 rfl hl (by decide) rfl (fun ls hl => ?_)
  refine lv_iload_n hx hb dX0_field_4 rfl (lv_at hl 0 rfl) ?_
  refine lv_aload_n hx hb dX0_field_5 rfl (lv_at hl 2 rfl) ?_
  refine va_get (D := G) (ci := 0) (v := .int 0) (C := RX0) (T := TX0) (N := 19) hx hb hts iG_X0 hown hK hP 0 rfl rfl 4 (by decide) (hts _ w_71) (fun _ h9 => h9) rfl dX0_field_6 ?_
  refine lv_icmp_ge (tgt := 34) hx hb dX0_field_9 (by decide) (fun c1 => ?_) (fun c1 => absurd (by decide) c1)
  refine lv_lload_n hx hb dX0_field_34 rfl (lv_at hl 1 rfl) ?_
  exact hret _ _ _ _ 0 () hP hD hS dX0_field_35 rfl
set_option maxHeartbeats 4000000 in
set_option maxRecDepth 100000 in
theorem f_X0_creekBits (l : Launch) (G : va_G) (cI cJ cZ cB cQ : ClassId) (sz : Nat) (h0 : Nat) (b : Nat → Nat) : CL l yX0_creekBits (wl_ yX0_creekBits cX0_creekBits 4 (some .long)) ({ frames := 0, cells := 0, slots := 0, locals := 0 } : Room) G (TY cI cJ cZ cB cQ) [.ref h0] [(h0, oX0 b 0 0 0 0 0 0 0 0 0 0)] sz (fun (r : Int64) (u : Unit) => r = 0) (fun _ : Unit => [(h0, oX0 b 0 0 0 0 0 0 0 0 0 0)]) 0 0 := by
  refine CL.go (cc := cX0_creekBits) (maxL := 4) (ret := (some .long)) (by decide) rfl (Nat.le_of_ble_eq_true rfl) ?_
  intro p e s m below meth c A ls Q hBd hret
  obtain ⟨hx, hb, hr, hml, hts, hown, hlk, hnm, hP, hK, hD, hA, hZ, hl⟩ := hBd
  have hown : s.vm.findClass RX0 = some m.cls := hown
  have hl : lv_has ls 4 [(0, .ref h0)] := hl
  have hS : va_S A s.heap s.heap [] := va_S.rf
  refine lv_lconst (v := 0) hx hb dX0_creekBits_0 (by decide) ?_
  refine lv_lstore_n (lv' := [(1, .long 0), (0, .ref h0)]) hx hb dX0_creekBits_1 rfl hl (by decide) rfl (fun ls hl => ?_)
  refine lv_iconst (v := 0) hx hb dX0_creekBits_2 (by decide) ?_
  refine lv_istore_n (lv' := [(3, .int 0), (1, .long 0), (0, .ref h0)]) hx hb dX0_creekBits_3 rfl hl (by decide) rfl (fun ls hl => ?_)
  refine lv_iload_n hx hb dX0_creekBits_4 rfl (lv_at hl 0 rfl) ?_
  refine lv_aload_n hx hb dX0_creekBits_5 rfl (lv_at hl 2 rfl) ?_
  refine va_get (D := G) (ci := 0) (v := .int 0) (C := RX0) (T := TX0) (N := 19) hx hb hts iG_X0 hown hK hP 0 rfl rfl 6 (by decide) (hts _ w_77) (fun _ h9 => h9) rfl dX0_creekBits_6 ?_
  refine lv_icmp_ge (tgt := 30) hx hb dX0_creekBits_9 (by decide) (fun c1 => ?_) (fun c1 => absurd (by decide) c1)
  refine lv_iconst (v := 0) hx hb dX0_creekBits_30 (by decide) ?_
  refine lv_istore_n (lv' := [(3, .int 0), (1, .long 0), (0, .ref h0)]) hx hb dX0_creekBits_31 rfl hl (by decide) rfl (fun ls hl => ?_)
  refine lv_iload_n hx hb dX0_creekBits_32 rfl (lv_at hl 0 rfl) ?_
  refine lv_aload_n hx hb dX0_creekBits_33 rfl (lv_at hl 2 rfl) ?_
  refine va_get (D := G) (ci := 0) (v := .int 0) (C := RX0) (T := TX0) (N := 19) hx hb hts iG_X0 hown hK hP 0 rfl rfl 9 (by decide) (hts _ w_89) (fun _ h9 => h9) rfl dX0_creekBits_34 ?_
  refine lv_icmp_ge (tgt := 73) hx hb dX0_creekBits_37 (by decide) (fun c2 => ?_) (fun c2 => absurd (by decide) c2)
  refine lv_lload_n hx hb dX0_creekBits_73 rfl (lv_at hl 1 rfl) ?_
  exact hret _ _ _ _ 0 () hP hD hS dX0_creekBits_74 rfl
set_option maxHeartbeats 4000000 in
set_option maxRecDepth 100000 in
theorem f_X0_walkerBits (l : Launch) (G : va_G) (cI cJ cZ cB cQ : ClassId) (sz : Nat) (h0 : Nat) (b : Nat → Nat) : CI l yX0_walkerBits (wl_ yX0_walkerBits cX0_walkerBits 3 (some .int)) ({ frames := 0, cells := 0, slots := 0, locals := 0 } : Room) G (TY cI cJ cZ cB cQ) [.ref h0] [(h0, oX0 b 0 0 0 0 0 0 0 0 0 0)] sz (fun (r : Int32) (u : Unit) => r = 0) (fun _ : Unit => [(h0, oX0 b 0 0 0 0 0 0 0 0 0 0)]) 0 0 := by
  refine CI.go (cc := cX0_walkerBits) (maxL := 3) (ret := (some .int)) (by decide) rfl (Nat.le_of_ble_eq_true rfl) ?_
  intro p e s m below meth c A ls Q hBd hret
  obtain ⟨hx, hb, hr, hml, hts, hown, hlk, hnm, hP, hK, hD, hA, hZ, hl⟩ := hBd
  have hown : s.vm.findClass RX0 = some m.cls := hown
  have hl : lv_has ls 3 [(0, .ref h0)] := hl
  have hS : va_S A s.heap s.heap [] := va_S.rf
  refine lv_iconst (v := 1) hx hb dX0_walkerBits_0 (by decide) ?_
  refine lv_aload_n hx hb dX0_walkerBits_1 rfl (lv_at hl 0 rfl) ?_
  refine va_get (D := G) (ci := 0) (v := .int 0) (C := RX0) (T := TX0) (N := 19) hx hb hts iG_X0 hown hK hP 0 rfl rfl 8 (by decide) (hts _ w_86) (fun _ h9 => h9) rfl dX0_walkerBits_2 ?_
  refine lv_ishl hx hb dX0_walkerBits_5 ?_
  refine lv_topi (fun v1 ev1 => ?_)
  obtain rfl : v1 = 1 := ev1.trans (by decide)
  refine lv_iconst (v := 1) hx hb dX0_walkerBits_6 (by decide) ?_
  refine lv_isub hx hb dX0_walkerBits_7 ?_
  refine lv_topi (fun v2 ev2 => ?_)
  obtain rfl : v2 = 0 := ev2.trans (by decide)
  refine lv_istore_n (lv' := [(1, .int 0), (0, .ref h0)]) hx hb dX0_walkerBits_8 rfl hl (by decide) rfl (fun ls hl => ?_)
  refine lv_iconst (v := 0) hx hb dX0_walkerBits_9 (by decide) ?_
  refine lv_istore_n (lv' := [(2, .int 0), (1, .int 0), (0, .ref h0)]) hx hb dX0_walkerBits_10 rfl hl (by decide) rfl (fun ls hl => ?_)
  refine lv_iload_n hx hb dX0_walkerBits_11 rfl (lv_at hl 0 rfl) ?_
  refine lv_aload_n hx hb dX0_walkerBits_12 rfl (lv_at hl 2 rfl) ?_
  refine va_get (D := G) (ci := 0) (v := .int 0) (C := RX0) (T := TX0) (N := 19) hx hb hts iG_X0 hown hK hP 0 rfl rfl 9 (by decide) (hts _ w_89) (fun _ h9 => h9) rfl dX0_walkerBits_13 ?_
  refine lv_icmp_ge (tgt := 52) hx hb dX0_walkerBits_16 (by decide) (fun c3 => ?_) (fun c3 => absurd (by decide) c3)
  refine lv_iload_n hx hb dX0_walkerBits_52 rfl (lv_at hl 1 rfl) ?_
  exact hret _ _ _ _ 0 () hP hD hS dX0_walkerBits_53 rfl
set_option maxHeartbeats 4000000 in
set_option maxRecDepth 100000 in
theorem f_X0_clear (l : Launch) (G : va_G) (cI cJ cZ cB cQ : ClassId) (sz : Nat) (h0 : Nat) (b : Nat → Nat) : CV l yX0_clear (wl_ yX0_clear cX0_clear 1 none) ({ frames := 0, cells := 0, slots := 0, locals := 0 } : Room) G (TY cI cJ cZ cB cQ) [.ref h0] [(h0, oX0 b 0 0 0 0 0 0 0 0 0 0)] sz (fun (u : Unit) => True) (fun _ : Unit => [(h0, oX0 b 0 0 0 0 0 0 0 0 0 0)]) 0 0 := by
  refine CV.go (cc := cX0_clear) (maxL := 1) (ret := none) (by decide) rfl (Nat.le_of_ble_eq_true rfl) ?_
  intro p e s m below meth c A ls Q hBd hret
  obtain ⟨hx, hb, hr, hml, hts, hown, hlk, hnm, hP, hK, hD, hA, hZ, hl⟩ := hBd
  have hown : s.vm.findClass RX0 = some m.cls := hown
  have hl : lv_has ls 1 [(0, .ref h0)] := hl
  have hS : va_S A s.heap s.heap [] := va_S.rf
  refine lv_aload_n hx hb dX0_clear_0 rfl (lv_at hl 0 rfl) ?_
  refine lv_iconst (v := 0) hx hb dX0_clear_1 (by decide) ?_
  refine va_put (D := G) (ci := 0) (v := .int 0) (ty := .int) (C := RX0) (T := TX0) (N := 19) hx hb hts iG_X0 tyX0 tyX0_ok nmX0 hown hK hP hD hS 0 rfl rfl 0 (by decide) (hts _ w_55) (fun _ h9 => h9) rfl (by decide +kernel) rfl rfl (Nat.le_of_ble_eq_true rfl) dX0_clear_2 (fun H locs hP hD hS => ?_)
  have hP : va_P G vwCl [(h0, oX0 b 0 0 0 0 0 0 0 0 0 0)] H := hP
  have hD : va_D A [(h0, oX0 b 0 0 0 0 0 0 0 0 0 0)] := hD
  refine lv_aload_n hx hb dX0_clear_5 rfl (lv_at hl 0 rfl) ?_
  refine lv_iconst (v := 0) hx hb dX0_clear_6 (by decide) ?_
  refine va_put (D := G) (ci := 0) (v := .int 0) (ty := .int) (C := RX0) (T := TX0) (N := 19) hx hb hts iG_X0 tyX0 tyX0_ok nmX0 hown hK hP hD hS 0 rfl rfl 1 (by decide) (hts _ w_58) (fun _ h9 => h9) rfl (by decide +kernel) rfl rfl (Nat.le_of_ble_eq_true rfl) dX0_clear_7 (fun H locs hP hD hS => ?_)
  have hP : va_P G vwCl [(h0, oX0 b 0 0 0 0 0 0 0 0 0 0)] H := hP
  have hD : va_D A [(h0, oX0 b 0 0 0 0 0 0 0 0 0 0)] := hD
  refine lv_aload_n hx hb dX0_clear_10 rfl (lv_at hl 0 rfl) ?_
  refine lv_iconst (v := 0) hx hb dX0_clear_11 (by decide) ?_
  refine va_put (D := G) (ci := 0) (v := .int 0) (ty := .int) (C := RX0) (T := TX0) (N := 19) hx hb hts iG_X0 tyX0 tyX0_ok nmX0 hown hK hP hD hS 0 rfl rfl 2 (by decide) (hts _ w_64) (fun _ h9 => h9) rfl (by decide +kernel) rfl rfl (Nat.le_of_ble_eq_true rfl) dX0_clear_12 (fun H locs hP hD hS => ?_)
  have hP : va_P G vwCl [(h0, oX0 b 0 0 0 0 0 0 0 0 0 0)] H := hP
  have hD : va_D A [(h0, oX0 b 0 0 0 0 0 0 0 0 0 0)] := hD
  refine lv_aload_n hx hb dX0_clear_15 rfl (lv_at hl 0 rfl) ?_
  refine lv_iconst (v := 0) hx hb dX0_clear_16 (by decide) ?_
  refine va_put (D := G) (ci := 0) (v := .int 0) (ty := .int) (C := RX0) (T := TX0) (N := 19) hx hb hts iG_X0 tyX0 tyX0_ok nmX0 hown hK hP hD hS 0 rfl rfl 3 (by decide) (hts _ w_67) (fun _ h9 => h9) rfl (by decide +kernel) rfl rfl (Nat.le_of_ble_eq_true rfl) dX0_clear_17 (fun H locs hP hD hS => ?_)
  have hP : va_P G vwCl [(h0, oX0 b 0 0 0 0 0 0 0 0 0 0)] H := hP
  have hD : va_D A [(h0, oX0 b 0 0 0 0 0 0 0 0 0 0)] := hD
  refine lv_aload_n hx hb dX0_clear_20 rfl (lv_at hl 0 rfl) ?_
  refine lv_iconst (v := 0) hx hb dX0_clear_21 (by decide) ?_
  refine va_put (D := G) (ci := 0) (v := .int 0) (ty := .int) (C := RX0) (T := TX0) (N := 19) hx hb hts iG_X0 tyX0 tyX0_ok nmX0 hown hK hP hD hS 0 rfl rfl 4 (by decide) (hts _ w_71) (fun _ h9 => h9) rfl (by decide +kernel) rfl rfl (Nat.le_of_ble_eq_true rfl) dX0_clear_22 (fun H locs hP hD hS => ?_)
  have hP : va_P G vwCl [(h0, oX0 b 0 0 0 0 0 0 0 0 0 0)] H := hP
  have hD : va_D A [(h0, oX0 b 0 0 0 0 0 0 0 0 0 0)] := hD
  refine lv_aload_n hx hb dX0_clear_25 rfl (lv_at hl 0 rfl) ?_
  refine lv_iconst (v := 0) hx hb dX0_clear_26 (by decide) ?_
  refine va_put (D := G) (ci := 0) (v := .int 0) (ty := .int) (C := RX0) (T := TX0) (N := 19) hx hb hts iG_X0 tyX0 tyX0_ok nmX0 hown hK hP hD hS 0 rfl rfl 5 (by decide) (hts _ w_74) (fun _ h9 => h9) rfl (by decide +kernel) rfl rfl (Nat.le_of_ble_eq_true rfl) dX0_clear_27 (fun H locs hP hD hS => ?_)
  have hP : va_P G vwCl [(h0, oX0 b 0 0 0 0 0 0 0 0 0 0)] H := hP
  have hD : va_D A [(h0, oX0 b 0 0 0 0 0 0 0 0 0 0)] := hD
  refine lv_aload_n hx hb dX0_clear_30 rfl (lv_at hl 0 rfl) ?_
  refine lv_iconst (v := 0) hx hb dX0_clear_31 (by decide) ?_
  refine va_put (D := G) (ci := 0) (v := .int 0) (ty := .int) (C := RX0) (T := TX0) (N := 19) hx hb hts iG_X0 tyX0 tyX0_ok nmX0 hown hK hP hD hS 0 rfl rfl 6 (by decide) (hts _ w_77) (fun _ h9 => h9) rfl (by decide +kernel) rfl rfl (Nat.le_of_ble_eq_true rfl) dX0_clear_32 (fun H locs hP hD hS => ?_)
  have hP : va_P G vwCl [(h0, oX0 b 0 0 0 0 0 0 0 0 0 0)] H := hP
  have hD : va_D A [(h0, oX0 b 0 0 0 0 0 0 0 0 0 0)] := hD
  refine lv_aload_n hx hb dX0_clear_35 rfl (lv_at hl 0 rfl) ?_
  refine lv_iconst (v := 0) hx hb dX0_clear_36 (by decide) ?_
  refine va_put (D := G) (ci := 0) (v := .int 0) (ty := .int) (C := RX0) (T := TX0) (N := 19) hx hb hts iG_X0 tyX0 tyX0_ok nmX0 hown hK hP hD hS 0 rfl rfl 7 (by decide) (hts _ w_80) (fun _ h9 => h9) rfl (by decide +kernel) rfl rfl (Nat.le_of_ble_eq_true rfl) dX0_clear_37 (fun H locs hP hD hS => ?_)
  have hP : va_P G vwCl [(h0, oX0 b 0 0 0 0 0 0 0 0 0 0)] H := hP
  have hD : va_D A [(h0, oX0 b 0 0 0 0 0 0 0 0 0 0)] := hD
  refine lv_aload_n hx hb dX0_clear_40 rfl (lv_at hl 0 rfl) ?_
  refine lv_iconst (v := 0) hx hb dX0_clear_41 (by decide) ?_
  refine va_put (D := G) (ci := 0) (v := .int 0) (ty := .int) (C := RX0) (T := TX0) (N := 19) hx hb hts iG_X0 tyX0 tyX0_ok nmX0 hown hK hP hD hS 0 rfl rfl 8 (by decide) (hts _ w_86) (fun _ h9 => h9) rfl (by decide +kernel) rfl rfl (Nat.le_of_ble_eq_true rfl) dX0_clear_42 (fun H locs hP hD hS => ?_)
  have hP : va_P G vwCl [(h0, oX0 b 0 0 0 0 0 0 0 0 0 0)] H := hP
  have hD : va_D A [(h0, oX0 b 0 0 0 0 0 0 0 0 0 0)] := hD
  refine lv_aload_n hx hb dX0_clear_45 rfl (lv_at hl 0 rfl) ?_
  refine lv_iconst (v := 0) hx hb dX0_clear_46 (by decide) ?_
  refine va_put (D := G) (ci := 0) (v := .int 0) (ty := .int) (C := RX0) (T := TX0) (N := 19) hx hb hts iG_X0 tyX0 tyX0_ok nmX0 hown hK hP hD hS 0 rfl rfl 9 (by decide) (hts _ w_89) (fun _ h9 => h9) rfl (by decide +kernel) rfl rfl (Nat.le_of_ble_eq_true rfl) dX0_clear_47 (fun H locs hP hD hS => ?_)
  have hP : va_P G vwCl [(h0, oX0 b 0 0 0 0 0 0 0 0 0 0)] H := hP
  have hD : va_D A [(h0, oX0 b 0 0 0 0 0 0 0 0 0 0)] := hD
  exact hret _ _ _ _ () hP hD hS dX0_clear_50 trivial
set_option maxHeartbeats 4000000 in
set_option maxRecDepth 100000 in
theorem f_X0_become (l : Launch) (G : va_G) (cI cJ cZ cB cQ : ClassId) (sz : Nat) (h0 : Nat) (b : Nat → Nat) (h1 : Nat) (b1 : Nat → Nat) : CV l yX0_become (wl_ yX0_become cX0_become 2 none) ({ frames := 1, cells := 0, slots := 0, locals := 40 } : Room) G (TY cI cJ cZ cB cQ) [.ref h0, .ref h1] [(h0, oX0 b 0 0 0 0 0 0 0 0 0 0), (b 10, .inl (cI, 12, .inl (fun _ => 0))), (b 11, .inl (cI, 6, .inl (fun _ => 0))), (b 12, .inl (cI, 7, .inl (fun _ => 0))), (b 13, .inl (cI, 7, .inl (fun _ => 0))), (b 14, .inl (cI, 7, .inl (fun _ => 0))), (b 15, .inl (cI, 7, .inl (fun _ => 0))), (b 16, .inl (cI, 7, .inl (fun _ => 0))), (b 17, .inl (cI, 56, .inl (fun _ => 0))), (b 18, .inl (cI, 30, .inl (fun _ => 0))), (h1, oX0 b1 0 0 0 0 0 0 0 0 0 0), (b1 10, .inl (cI, 12, .inl (fun _ => 0))), (b1 11, .inl (cI, 6, .inl (fun _ => 0))), (b1 12, .inl (cI, 7, .inl (fun _ => 0))), (b1 13, .inl (cI, 7, .inl (fun _ => 0))), (b1 14, .inl (cI, 7, .inl (fun _ => 0))), (b1 15, .inl (cI, 7, .inl (fun _ => 0))), (b1 16, .inl (cI, 7, .inl (fun _ => 0))), (b1 17, .inl (cI, 56, .inl (fun _ => 0))), (b1 18, .inl (cI, 30, .inl (fun _ => 0)))] sz (fun (u : Unit) => True) (fun _ : Unit => [(h0, oX0 b 0 0 0 0 0 0 0 0 0 0), (b 10, .inl (cI, 12, .inl (fun _ => 0))), (b 11, .inl (cI, 6, .inl (fun _ => 0))), (b 12, .inl (cI, 7, .inl (fun _ => 0))), (b 13, .inl (cI, 7, .inl (fun _ => 0))), (b 14, .inl (cI, 7, .inl (fun _ => 0))), (b 15, .inl (cI, 7, .inl (fun _ => 0))), (b 16, .inl (cI, 7, .inl (fun _ => 0))), (b 17, .inl (cI, 56, .inl (fun _ => 0))), (b 18, .inl (cI, 30, .inl (fun _ => 0))), (h1, oX0 b1 0 0 0 0 0 0 0 0 0 0), (b1 10, .inl (cI, 12, .inl (fun _ => 0))), (b1 11, .inl (cI, 6, .inl (fun _ => 0))), (b1 12, .inl (cI, 7, .inl (fun _ => 0))), (b1 13, .inl (cI, 7, .inl (fun _ => 0))), (b1 14, .inl (cI, 7, .inl (fun _ => 0))), (b1 15, .inl (cI, 7, .inl (fun _ => 0))), (b1 16, .inl (cI, 7, .inl (fun _ => 0))), (b1 17, .inl (cI, 56, .inl (fun _ => 0))), (b1 18, .inl (cI, 30, .inl (fun _ => 0)))]) 0 0 := by
  refine CV.go (cc := cX0_become) (maxL := 2) (ret := none) (by decide) rfl (Nat.le_of_ble_eq_true rfl) ?_
  intro p e s m below meth c A ls Q hBd hret
  obtain ⟨hx, hb, hr, hml, hts, hown, hlk, hnm, hP, hK, hD, hA, hZ, hl⟩ := hBd
  have hown : s.vm.findClass RX0 = some m.cls := hown
  have hl : lv_has ls 2 [(0, .ref h0), (1, .ref h1)] := hl
  have hS : va_S A s.heap s.heap [] := va_S.rf
  refine lv_aload_n hx hb dX0_become_0 rfl (lv_at hl 0 rfl) ?_
  refine lv_aload_n hx hb dX0_become_1 rfl (lv_at hl 1 rfl) ?_
  refine va_get (D := G) (ci := 0) (v := .int 0) (C := RX0) (T := TX0) (N := 19) hx hb hts iG_X0 hown hK hP 10 rfl rfl 0 (by decide) (hts _ w_55) (fun _ h9 => h9) rfl dX0_become_2 ?_
  refine va_put (D := G) (ci := 0) (v := .int 0) (ty := .int) (C := RX0) (T := TX0) (N := 19) hx hb hts iG_X0 tyX0 tyX0_ok nmX0 hown hK hP hD hS 0 rfl rfl 0 (by decide) (hts _ w_55) (fun _ h9 => h9) rfl (by decide +kernel) rfl rfl (Nat.le_of_ble_eq_true rfl) dX0_become_5 (fun H locs hP hD hS => ?_)
  have hP : va_P G vwCl [(h0, oX0 b 0 0 0 0 0 0 0 0 0 0), (b 10, .inl (cI, 12, .inl (fun _ => 0))), (b 11, .inl (cI, 6, .inl (fun _ => 0))), (b 12, .inl (cI, 7, .inl (fun _ => 0))), (b 13, .inl (cI, 7, .inl (fun _ => 0))), (b 14, .inl (cI, 7, .inl (fun _ => 0))), (b 15, .inl (cI, 7, .inl (fun _ => 0))), (b 16, .inl (cI, 7, .inl (fun _ => 0))), (b 17, .inl (cI, 56, .inl (fun _ => 0))), (b 18, .inl (cI, 30, .inl (fun _ => 0))), (h1, oX0 b1 0 0 0 0 0 0 0 0 0 0), (b1 10, .inl (cI, 12, .inl (fun _ => 0))), (b1 11, .inl (cI, 6, .inl (fun _ => 0))), (b1 12, .inl (cI, 7, .inl (fun _ => 0))), (b1 13, .inl (cI, 7, .inl (fun _ => 0))), (b1 14, .inl (cI, 7, .inl (fun _ => 0))), (b1 15, .inl (cI, 7, .inl (fun _ => 0))), (b1 16, .inl (cI, 7, .inl (fun _ => 0))), (b1 17, .inl (cI, 56, .inl (fun _ => 0))), (b1 18, .inl (cI, 30, .inl (fun _ => 0)))] H := hP
  have hD : va_D A [(h0, oX0 b 0 0 0 0 0 0 0 0 0 0), (b 10, .inl (cI, 12, .inl (fun _ => 0))), (b 11, .inl (cI, 6, .inl (fun _ => 0))), (b 12, .inl (cI, 7, .inl (fun _ => 0))), (b 13, .inl (cI, 7, .inl (fun _ => 0))), (b 14, .inl (cI, 7, .inl (fun _ => 0))), (b 15, .inl (cI, 7, .inl (fun _ => 0))), (b 16, .inl (cI, 7, .inl (fun _ => 0))), (b 17, .inl (cI, 56, .inl (fun _ => 0))), (b 18, .inl (cI, 30, .inl (fun _ => 0))), (h1, oX0 b1 0 0 0 0 0 0 0 0 0 0), (b1 10, .inl (cI, 12, .inl (fun _ => 0))), (b1 11, .inl (cI, 6, .inl (fun _ => 0))), (b1 12, .inl (cI, 7, .inl (fun _ => 0))), (b1 13, .inl (cI, 7, .inl (fun _ => 0))), (b1 14, .inl (cI, 7, .inl (fun _ => 0))), (b1 15, .inl (cI, 7, .inl (fun _ => 0))), (b1 16, .inl (cI, 7, .inl (fun _ => 0))), (b1 17, .inl (cI, 56, .inl (fun _ => 0))), (b1 18, .inl (cI, 30, .inl (fun _ => 0)))] := hD
  refine lv_aload_n hx hb dX0_become_8 rfl (lv_at hl 0 rfl) ?_
  refine lv_aload_n hx hb dX0_become_9 rfl (lv_at hl 1 rfl) ?_
  refine va_get (D := G) (ci := 0) (v := .int 0) (C := RX0) (T := TX0) (N := 19) hx hb hts iG_X0 hown hK hP 10 rfl rfl 1 (by decide) (hts _ w_58) (fun _ h9 => h9) rfl dX0_become_10 ?_
  refine va_put (D := G) (ci := 0) (v := .int 0) (ty := .int) (C := RX0) (T := TX0) (N := 19) hx hb hts iG_X0 tyX0 tyX0_ok nmX0 hown hK hP hD hS 0 rfl rfl 1 (by decide) (hts _ w_58) (fun _ h9 => h9) rfl (by decide +kernel) rfl rfl (Nat.le_of_ble_eq_true rfl) dX0_become_13 (fun H locs hP hD hS => ?_)
  have hP : va_P G vwCl [(h0, oX0 b 0 0 0 0 0 0 0 0 0 0), (b 10, .inl (cI, 12, .inl (fun _ => 0))), (b 11, .inl (cI, 6, .inl (fun _ => 0))), (b 12, .inl (cI, 7, .inl (fun _ => 0))), (b 13, .inl (cI, 7, .inl (fun _ => 0))), (b 14, .inl (cI, 7, .inl (fun _ => 0))), (b 15, .inl (cI, 7, .inl (fun _ => 0))), (b 16, .inl (cI, 7, .inl (fun _ => 0))), (b 17, .inl (cI, 56, .inl (fun _ => 0))), (b 18, .inl (cI, 30, .inl (fun _ => 0))), (h1, oX0 b1 0 0 0 0 0 0 0 0 0 0), (b1 10, .inl (cI, 12, .inl (fun _ => 0))), (b1 11, .inl (cI, 6, .inl (fun _ => 0))), (b1 12, .inl (cI, 7, .inl (fun _ => 0))), (b1 13, .inl (cI, 7, .inl (fun _ => 0))), (b1 14, .inl (cI, 7, .inl (fun _ => 0))), (b1 15, .inl (cI, 7, .inl (fun _ => 0))), (b1 16, .inl (cI, 7, .inl (fun _ => 0))), (b1 17, .inl (cI, 56, .inl (fun _ => 0))), (b1 18, .inl (cI, 30, .inl (fun _ => 0)))] H := hP
  have hD : va_D A [(h0, oX0 b 0 0 0 0 0 0 0 0 0 0), (b 10, .inl (cI, 12, .inl (fun _ => 0))), (b 11, .inl (cI, 6, .inl (fun _ => 0))), (b 12, .inl (cI, 7, .inl (fun _ => 0))), (b 13, .inl (cI, 7, .inl (fun _ => 0))), (b 14, .inl (cI, 7, .inl (fun _ => 0))), (b 15, .inl (cI, 7, .inl (fun _ => 0))), (b 16, .inl (cI, 7, .inl (fun _ => 0))), (b 17, .inl (cI, 56, .inl (fun _ => 0))), (b 18, .inl (cI, 30, .inl (fun _ => 0))), (h1, oX0 b1 0 0 0 0 0 0 0 0 0 0), (b1 10, .inl (cI, 12, .inl (fun _ => 0))), (b1 11, .inl (cI, 6, .inl (fun _ => 0))), (b1 12, .inl (cI, 7, .inl (fun _ => 0))), (b1 13, .inl (cI, 7, .inl (fun _ => 0))), (b1 14, .inl (cI, 7, .inl (fun _ => 0))), (b1 15, .inl (cI, 7, .inl (fun _ => 0))), (b1 16, .inl (cI, 7, .inl (fun _ => 0))), (b1 17, .inl (cI, 56, .inl (fun _ => 0))), (b1 18, .inl (cI, 30, .inl (fun _ => 0)))] := hD
  refine lv_aload_n hx hb dX0_become_16 rfl (lv_at hl 0 rfl) ?_
  refine lv_aload_n hx hb dX0_become_17 rfl (lv_at hl 1 rfl) ?_
  refine va_get (D := G) (ci := 0) (v := .int 0) (C := RX0) (T := TX0) (N := 19) hx hb hts iG_X0 hown hK hP 10 rfl rfl 2 (by decide) (hts _ w_64) (fun _ h9 => h9) rfl dX0_become_18 ?_
  refine va_put (D := G) (ci := 0) (v := .int 0) (ty := .int) (C := RX0) (T := TX0) (N := 19) hx hb hts iG_X0 tyX0 tyX0_ok nmX0 hown hK hP hD hS 0 rfl rfl 2 (by decide) (hts _ w_64) (fun _ h9 => h9) rfl (by decide +kernel) rfl rfl (Nat.le_of_ble_eq_true rfl) dX0_become_21 (fun H locs hP hD hS => ?_)
  have hP : va_P G vwCl [(h0, oX0 b 0 0 0 0 0 0 0 0 0 0), (b 10, .inl (cI, 12, .inl (fun _ => 0))), (b 11, .inl (cI, 6, .inl (fun _ => 0))), (b 12, .inl (cI, 7, .inl (fun _ => 0))), (b 13, .inl (cI, 7, .inl (fun _ => 0))), (b 14, .inl (cI, 7, .inl (fun _ => 0))), (b 15, .inl (cI, 7, .inl (fun _ => 0))), (b 16, .inl (cI, 7, .inl (fun _ => 0))), (b 17, .inl (cI, 56, .inl (fun _ => 0))), (b 18, .inl (cI, 30, .inl (fun _ => 0))), (h1, oX0 b1 0 0 0 0 0 0 0 0 0 0), (b1 10, .inl (cI, 12, .inl (fun _ => 0))), (b1 11, .inl (cI, 6, .inl (fun _ => 0))), (b1 12, .inl (cI, 7, .inl (fun _ => 0))), (b1 13, .inl (cI, 7, .inl (fun _ => 0))), (b1 14, .inl (cI, 7, .inl (fun _ => 0))), (b1 15, .inl (cI, 7, .inl (fun _ => 0))), (b1 16, .inl (cI, 7, .inl (fun _ => 0))), (b1 17, .inl (cI, 56, .inl (fun _ => 0))), (b1 18, .inl (cI, 30, .inl (fun _ => 0)))] H := hP
  have hD : va_D A [(h0, oX0 b 0 0 0 0 0 0 0 0 0 0), (b 10, .inl (cI, 12, .inl (fun _ => 0))), (b 11, .inl (cI, 6, .inl (fun _ => 0))), (b 12, .inl (cI, 7, .inl (fun _ => 0))), (b 13, .inl (cI, 7, .inl (fun _ => 0))), (b 14, .inl (cI, 7, .inl (fun _ => 0))), (b 15, .inl (cI, 7, .inl (fun _ => 0))), (b 16, .inl (cI, 7, .inl (fun _ => 0))), (b 17, .inl (cI, 56, .inl (fun _ => 0))), (b 18, .inl (cI, 30, .inl (fun _ => 0))), (h1, oX0 b1 0 0 0 0 0 0 0 0 0 0), (b1 10, .inl (cI, 12, .inl (fun _ => 0))), (b1 11, .inl (cI, 6, .inl (fun _ => 0))), (b1 12, .inl (cI, 7, .inl (fun _ => 0))), (b1 13, .inl (cI, 7, .inl (fun _ => 0))), (b1 14, .inl (cI, 7, .inl (fun _ => 0))), (b1 15, .inl (cI, 7, .inl (fun _ => 0))), (b1 16, .inl (cI, 7, .inl (fun _ => 0))), (b1 17, .inl (cI, 56, .inl (fun _ => 0))), (b1 18, .inl (cI, 30, .inl (fun _ => 0)))] := hD
  refine lv_aload_n hx hb dX0_become_24 rfl (lv_at hl 0 rfl) ?_
  refine lv_aload_n hx hb dX0_become_25 rfl (lv_at hl 1 rfl) ?_
  refine va_get (D := G) (ci := 0) (v := .int 0) (C := RX0) (T := TX0) (N := 19) hx hb hts iG_X0 hown hK hP 10 rfl rfl 3 (by decide) (hts _ w_67) (fun _ h9 => h9) rfl dX0_become_26 ?_
  refine va_put (D := G) (ci := 0) (v := .int 0) (ty := .int) (C := RX0) (T := TX0) (N := 19) hx hb hts iG_X0 tyX0 tyX0_ok nmX0 hown hK hP hD hS 0 rfl rfl 3 (by decide) (hts _ w_67) (fun _ h9 => h9) rfl (by decide +kernel) rfl rfl (Nat.le_of_ble_eq_true rfl) dX0_become_29 (fun H locs hP hD hS => ?_)
  have hP : va_P G vwCl [(h0, oX0 b 0 0 0 0 0 0 0 0 0 0), (b 10, .inl (cI, 12, .inl (fun _ => 0))), (b 11, .inl (cI, 6, .inl (fun _ => 0))), (b 12, .inl (cI, 7, .inl (fun _ => 0))), (b 13, .inl (cI, 7, .inl (fun _ => 0))), (b 14, .inl (cI, 7, .inl (fun _ => 0))), (b 15, .inl (cI, 7, .inl (fun _ => 0))), (b 16, .inl (cI, 7, .inl (fun _ => 0))), (b 17, .inl (cI, 56, .inl (fun _ => 0))), (b 18, .inl (cI, 30, .inl (fun _ => 0))), (h1, oX0 b1 0 0 0 0 0 0 0 0 0 0), (b1 10, .inl (cI, 12, .inl (fun _ => 0))), (b1 11, .inl (cI, 6, .inl (fun _ => 0))), (b1 12, .inl (cI, 7, .inl (fun _ => 0))), (b1 13, .inl (cI, 7, .inl (fun _ => 0))), (b1 14, .inl (cI, 7, .inl (fun _ => 0))), (b1 15, .inl (cI, 7, .inl (fun _ => 0))), (b1 16, .inl (cI, 7, .inl (fun _ => 0))), (b1 17, .inl (cI, 56, .inl (fun _ => 0))), (b1 18, .inl (cI, 30, .inl (fun _ => 0)))] H := hP
  have hD : va_D A [(h0, oX0 b 0 0 0 0 0 0 0 0 0 0), (b 10, .inl (cI, 12, .inl (fun _ => 0))), (b 11, .inl (cI, 6, .inl (fun _ => 0))), (b 12, .inl (cI, 7, .inl (fun _ => 0))), (b 13, .inl (cI, 7, .inl (fun _ => 0))), (b 14, .inl (cI, 7, .inl (fun _ => 0))), (b 15, .inl (cI, 7, .inl (fun _ => 0))), (b 16, .inl (cI, 7, .inl (fun _ => 0))), (b 17, .inl (cI, 56, .inl (fun _ => 0))), (b 18, .inl (cI, 30, .inl (fun _ => 0))), (h1, oX0 b1 0 0 0 0 0 0 0 0 0 0), (b1 10, .inl (cI, 12, .inl (fun _ => 0))), (b1 11, .inl (cI, 6, .inl (fun _ => 0))), (b1 12, .inl (cI, 7, .inl (fun _ => 0))), (b1 13, .inl (cI, 7, .inl (fun _ => 0))), (b1 14, .inl (cI, 7, .inl (fun _ => 0))), (b1 15, .inl (cI, 7, .inl (fun _ => 0))), (b1 16, .inl (cI, 7, .inl (fun _ => 0))), (b1 17, .inl (cI, 56, .inl (fun _ => 0))), (b1 18, .inl (cI, 30, .inl (fun _ => 0)))] := hD
  refine lv_aload_n hx hb dX0_become_32 rfl (lv_at hl 0 rfl) ?_
  refine lv_aload_n hx hb dX0_become_33 rfl (lv_at hl 1 rfl) ?_
  refine va_get (D := G) (ci := 0) (v := .int 0) (C := RX0) (T := TX0) (N := 19) hx hb hts iG_X0 hown hK hP 10 rfl rfl 4 (by decide) (hts _ w_71) (fun _ h9 => h9) rfl dX0_become_34 ?_
  refine va_put (D := G) (ci := 0) (v := .int 0) (ty := .int) (C := RX0) (T := TX0) (N := 19) hx hb hts iG_X0 tyX0 tyX0_ok nmX0 hown hK hP hD hS 0 rfl rfl 4 (by decide) (hts _ w_71) (fun _ h9 => h9) rfl (by decide +kernel) rfl rfl (Nat.le_of_ble_eq_true rfl) dX0_become_37 (fun H locs hP hD hS => ?_)
  have hP : va_P G vwCl [(h0, oX0 b 0 0 0 0 0 0 0 0 0 0), (b 10, .inl (cI, 12, .inl (fun _ => 0))), (b 11, .inl (cI, 6, .inl (fun _ => 0))), (b 12, .inl (cI, 7, .inl (fun _ => 0))), (b 13, .inl (cI, 7, .inl (fun _ => 0))), (b 14, .inl (cI, 7, .inl (fun _ => 0))), (b 15, .inl (cI, 7, .inl (fun _ => 0))), (b 16, .inl (cI, 7, .inl (fun _ => 0))), (b 17, .inl (cI, 56, .inl (fun _ => 0))), (b 18, .inl (cI, 30, .inl (fun _ => 0))), (h1, oX0 b1 0 0 0 0 0 0 0 0 0 0), (b1 10, .inl (cI, 12, .inl (fun _ => 0))), (b1 11, .inl (cI, 6, .inl (fun _ => 0))), (b1 12, .inl (cI, 7, .inl (fun _ => 0))), (b1 13, .inl (cI, 7, .inl (fun _ => 0))), (b1 14, .inl (cI, 7, .inl (fun _ => 0))), (b1 15, .inl (cI, 7, .inl (fun _ => 0))), (b1 16, .inl (cI, 7, .inl (fun _ => 0))), (b1 17, .inl (cI, 56, .inl (fun _ => 0))), (b1 18, .inl (cI, 30, .inl (fun _ => 0)))] H := hP
  have hD : va_D A [(h0, oX0 b 0 0 0 0 0 0 0 0 0 0), (b 10, .inl (cI, 12, .inl (fun _ => 0))), (b 11, .inl (cI, 6, .inl (fun _ => 0))), (b 12, .inl (cI, 7, .inl (fun _ => 0))), (b 13, .inl (cI, 7, .inl (fun _ => 0))), (b 14, .inl (cI, 7, .inl (fun _ => 0))), (b 15, .inl (cI, 7, .inl (fun _ => 0))), (b 16, .inl (cI, 7, .inl (fun _ => 0))), (b 17, .inl (cI, 56, .inl (fun _ => 0))), (b 18, .inl (cI, 30, .inl (fun _ => 0))), (h1, oX0 b1 0 0 0 0 0 0 0 0 0 0), (b1 10, .inl (cI, 12, .inl (fun _ => 0))), (b1 11, .inl (cI, 6, .inl (fun _ => 0))), (b1 12, .inl (cI, 7, .inl (fun _ => 0))), (b1 13, .inl (cI, 7, .inl (fun _ => 0))), (b1 14, .inl (cI, 7, .inl (fun _ => 0))), (b1 15, .inl (cI, 7, .inl (fun _ => 0))), (b1 16, .inl (cI, 7, .inl (fun _ => 0))), (b1 17, .inl (cI, 56, .inl (fun _ => 0))), (b1 18, .inl (cI, 30, .inl (fun _ => 0)))] := hD
  refine lv_aload_n hx hb dX0_become_40 rfl (lv_at hl 0 rfl) ?_
  refine lv_aload_n hx hb dX0_become_41 rfl (lv_at hl 1 rfl) ?_
  refine va_get (D := G) (ci := 0) (v := .int 0) (C := RX0) (T := TX0) (N := 19) hx hb hts iG_X0 hown hK hP 10 rfl rfl 5 (by decide) (hts _ w_74) (fun _ h9 => h9) rfl dX0_become_42 ?_
  refine va_put (D := G) (ci := 0) (v := .int 0) (ty := .int) (C := RX0) (T := TX0) (N := 19) hx hb hts iG_X0 tyX0 tyX0_ok nmX0 hown hK hP hD hS 0 rfl rfl 5 (by decide) (hts _ w_74) (fun _ h9 => h9) rfl (by decide +kernel) rfl rfl (Nat.le_of_ble_eq_true rfl) dX0_become_45 (fun H locs hP hD hS => ?_)
  have hP : va_P G vwCl [(h0, oX0 b 0 0 0 0 0 0 0 0 0 0), (b 10, .inl (cI, 12, .inl (fun _ => 0))), (b 11, .inl (cI, 6, .inl (fun _ => 0))), (b 12, .inl (cI, 7, .inl (fun _ => 0))), (b 13, .inl (cI, 7, .inl (fun _ => 0))), (b 14, .inl (cI, 7, .inl (fun _ => 0))), (b 15, .inl (cI, 7, .inl (fun _ => 0))), (b 16, .inl (cI, 7, .inl (fun _ => 0))), (b 17, .inl (cI, 56, .inl (fun _ => 0))), (b 18, .inl (cI, 30, .inl (fun _ => 0))), (h1, oX0 b1 0 0 0 0 0 0 0 0 0 0), (b1 10, .inl (cI, 12, .inl (fun _ => 0))), (b1 11, .inl (cI, 6, .inl (fun _ => 0))), (b1 12, .inl (cI, 7, .inl (fun _ => 0))), (b1 13, .inl (cI, 7, .inl (fun _ => 0))), (b1 14, .inl (cI, 7, .inl (fun _ => 0))), (b1 15, .inl (cI, 7, .inl (fun _ => 0))), (b1 16, .inl (cI, 7, .inl (fun _ => 0))), (b1 17, .inl (cI, 56, .inl (fun _ => 0))), (b1 18, .inl (cI, 30, .inl (fun _ => 0)))] H := hP
  have hD : va_D A [(h0, oX0 b 0 0 0 0 0 0 0 0 0 0), (b 10, .inl (cI, 12, .inl (fun _ => 0))), (b 11, .inl (cI, 6, .inl (fun _ => 0))), (b 12, .inl (cI, 7, .inl (fun _ => 0))), (b 13, .inl (cI, 7, .inl (fun _ => 0))), (b 14, .inl (cI, 7, .inl (fun _ => 0))), (b 15, .inl (cI, 7, .inl (fun _ => 0))), (b 16, .inl (cI, 7, .inl (fun _ => 0))), (b 17, .inl (cI, 56, .inl (fun _ => 0))), (b 18, .inl (cI, 30, .inl (fun _ => 0))), (h1, oX0 b1 0 0 0 0 0 0 0 0 0 0), (b1 10, .inl (cI, 12, .inl (fun _ => 0))), (b1 11, .inl (cI, 6, .inl (fun _ => 0))), (b1 12, .inl (cI, 7, .inl (fun _ => 0))), (b1 13, .inl (cI, 7, .inl (fun _ => 0))), (b1 14, .inl (cI, 7, .inl (fun _ => 0))), (b1 15, .inl (cI, 7, .inl (fun _ => 0))), (b1 16, .inl (cI, 7, .inl (fun _ => 0))), (b1 17, .inl (cI, 56, .inl (fun _ => 0))), (b1 18, .inl (cI, 30, .inl (fun _ => 0)))] := hD
  refine lv_aload_n hx hb dX0_become_48 rfl (lv_at hl 0 rfl) ?_
  refine lv_aload_n hx hb dX0_become_49 rfl (lv_at hl 1 rfl) ?_
  refine va_get (D := G) (ci := 0) (v := .int 0) (C := RX0) (T := TX0) (N := 19) hx hb hts iG_X0 hown hK hP 10 rfl rfl 6 (by decide) (hts _ w_77) (fun _ h9 => h9) rfl dX0_become_50 ?_
  refine va_put (D := G) (ci := 0) (v := .int 0) (ty := .int) (C := RX0) (T := TX0) (N := 19) hx hb hts iG_X0 tyX0 tyX0_ok nmX0 hown hK hP hD hS 0 rfl rfl 6 (by decide) (hts _ w_77) (fun _ h9 => h9) rfl (by decide +kernel) rfl rfl (Nat.le_of_ble_eq_true rfl) dX0_become_53 (fun H locs hP hD hS => ?_)
  have hP : va_P G vwCl [(h0, oX0 b 0 0 0 0 0 0 0 0 0 0), (b 10, .inl (cI, 12, .inl (fun _ => 0))), (b 11, .inl (cI, 6, .inl (fun _ => 0))), (b 12, .inl (cI, 7, .inl (fun _ => 0))), (b 13, .inl (cI, 7, .inl (fun _ => 0))), (b 14, .inl (cI, 7, .inl (fun _ => 0))), (b 15, .inl (cI, 7, .inl (fun _ => 0))), (b 16, .inl (cI, 7, .inl (fun _ => 0))), (b 17, .inl (cI, 56, .inl (fun _ => 0))), (b 18, .inl (cI, 30, .inl (fun _ => 0))), (h1, oX0 b1 0 0 0 0 0 0 0 0 0 0), (b1 10, .inl (cI, 12, .inl (fun _ => 0))), (b1 11, .inl (cI, 6, .inl (fun _ => 0))), (b1 12, .inl (cI, 7, .inl (fun _ => 0))), (b1 13, .inl (cI, 7, .inl (fun _ => 0))), (b1 14, .inl (cI, 7, .inl (fun _ => 0))), (b1 15, .inl (cI, 7, .inl (fun _ => 0))), (b1 16, .inl (cI, 7, .inl (fun _ => 0))), (b1 17, .inl (cI, 56, .inl (fun _ => 0))), (b1 18, .inl (cI, 30, .inl (fun _ => 0)))] H := hP
  have hD : va_D A [(h0, oX0 b 0 0 0 0 0 0 0 0 0 0), (b 10, .inl (cI, 12, .inl (fun _ => 0))), (b 11, .inl (cI, 6, .inl (fun _ => 0))), (b 12, .inl (cI, 7, .inl (fun _ => 0))), (b 13, .inl (cI, 7, .inl (fun _ => 0))), (b 14, .inl (cI, 7, .inl (fun _ => 0))), (b 15, .inl (cI, 7, .inl (fun _ => 0))), (b 16, .inl (cI, 7, .inl (fun _ => 0))), (b 17, .inl (cI, 56, .inl (fun _ => 0))), (b 18, .inl (cI, 30, .inl (fun _ => 0))), (h1, oX0 b1 0 0 0 0 0 0 0 0 0 0), (b1 10, .inl (cI, 12, .inl (fun _ => 0))), (b1 11, .inl (cI, 6, .inl (fun _ => 0))), (b1 12, .inl (cI, 7, .inl (fun _ => 0))), (b1 13, .inl (cI, 7, .inl (fun _ => 0))), (b1 14, .inl (cI, 7, .inl (fun _ => 0))), (b1 15, .inl (cI, 7, .inl (fun _ => 0))), (b1 16, .inl (cI, 7, .inl (fun _ => 0))), (b1 17, .inl (cI, 56, .inl (fun _ => 0))), (b1 18, .inl (cI, 30, .inl (fun _ => 0)))] := hD
  refine lv_aload_n hx hb dX0_become_56 rfl (lv_at hl 0 rfl) ?_
  refine lv_aload_n hx hb dX0_become_57 rfl (lv_at hl 1 rfl) ?_
  refine va_get (D := G) (ci := 0) (v := .int 0) (C := RX0) (T := TX0) (N := 19) hx hb hts iG_X0 hown hK hP 10 rfl rfl 7 (by decide) (hts _ w_80) (fun _ h9 => h9) rfl dX0_become_58 ?_
  refine va_put (D := G) (ci := 0) (v := .int 0) (ty := .int) (C := RX0) (T := TX0) (N := 19) hx hb hts iG_X0 tyX0 tyX0_ok nmX0 hown hK hP hD hS 0 rfl rfl 7 (by decide) (hts _ w_80) (fun _ h9 => h9) rfl (by decide +kernel) rfl rfl (Nat.le_of_ble_eq_true rfl) dX0_become_61 (fun H locs hP hD hS => ?_)
  have hP : va_P G vwCl [(h0, oX0 b 0 0 0 0 0 0 0 0 0 0), (b 10, .inl (cI, 12, .inl (fun _ => 0))), (b 11, .inl (cI, 6, .inl (fun _ => 0))), (b 12, .inl (cI, 7, .inl (fun _ => 0))), (b 13, .inl (cI, 7, .inl (fun _ => 0))), (b 14, .inl (cI, 7, .inl (fun _ => 0))), (b 15, .inl (cI, 7, .inl (fun _ => 0))), (b 16, .inl (cI, 7, .inl (fun _ => 0))), (b 17, .inl (cI, 56, .inl (fun _ => 0))), (b 18, .inl (cI, 30, .inl (fun _ => 0))), (h1, oX0 b1 0 0 0 0 0 0 0 0 0 0), (b1 10, .inl (cI, 12, .inl (fun _ => 0))), (b1 11, .inl (cI, 6, .inl (fun _ => 0))), (b1 12, .inl (cI, 7, .inl (fun _ => 0))), (b1 13, .inl (cI, 7, .inl (fun _ => 0))), (b1 14, .inl (cI, 7, .inl (fun _ => 0))), (b1 15, .inl (cI, 7, .inl (fun _ => 0))), (b1 16, .inl (cI, 7, .inl (fun _ => 0))), (b1 17, .inl (cI, 56, .inl (fun _ => 0))), (b1 18, .inl (cI, 30, .inl (fun _ => 0)))] H := hP
  have hD : va_D A [(h0, oX0 b 0 0 0 0 0 0 0 0 0 0), (b 10, .inl (cI, 12, .inl (fun _ => 0))), (b 11, .inl (cI, 6, .inl (fun _ => 0))), (b 12, .inl (cI, 7, .inl (fun _ => 0))), (b 13, .inl (cI, 7, .inl (fun _ => 0))), (b 14, .inl (cI, 7, .inl (fun _ => 0))), (b 15, .inl (cI, 7, .inl (fun _ => 0))), (b 16, .inl (cI, 7, .inl (fun _ => 0))), (b 17, .inl (cI, 56, .inl (fun _ => 0))), (b 18, .inl (cI, 30, .inl (fun _ => 0))), (h1, oX0 b1 0 0 0 0 0 0 0 0 0 0), (b1 10, .inl (cI, 12, .inl (fun _ => 0))), (b1 11, .inl (cI, 6, .inl (fun _ => 0))), (b1 12, .inl (cI, 7, .inl (fun _ => 0))), (b1 13, .inl (cI, 7, .inl (fun _ => 0))), (b1 14, .inl (cI, 7, .inl (fun _ => 0))), (b1 15, .inl (cI, 7, .inl (fun _ => 0))), (b1 16, .inl (cI, 7, .inl (fun _ => 0))), (b1 17, .inl (cI, 56, .inl (fun _ => 0))), (b1 18, .inl (cI, 30, .inl (fun _ => 0)))] := hD
  refine lv_aload_n hx hb dX0_become_64 rfl (lv_at hl 0 rfl) ?_
  refine lv_aload_n hx hb dX0_become_65 rfl (lv_at hl 1 rfl) ?_
  refine va_get (D := G) (ci := 0) (v := .int 0) (C := RX0) (T := TX0) (N := 19) hx hb hts iG_X0 hown hK hP 10 rfl rfl 8 (by decide) (hts _ w_86) (fun _ h9 => h9) rfl dX0_become_66 ?_
  refine va_put (D := G) (ci := 0) (v := .int 0) (ty := .int) (C := RX0) (T := TX0) (N := 19) hx hb hts iG_X0 tyX0 tyX0_ok nmX0 hown hK hP hD hS 0 rfl rfl 8 (by decide) (hts _ w_86) (fun _ h9 => h9) rfl (by decide +kernel) rfl rfl (Nat.le_of_ble_eq_true rfl) dX0_become_69 (fun H locs hP hD hS => ?_)
  have hP : va_P G vwCl [(h0, oX0 b 0 0 0 0 0 0 0 0 0 0), (b 10, .inl (cI, 12, .inl (fun _ => 0))), (b 11, .inl (cI, 6, .inl (fun _ => 0))), (b 12, .inl (cI, 7, .inl (fun _ => 0))), (b 13, .inl (cI, 7, .inl (fun _ => 0))), (b 14, .inl (cI, 7, .inl (fun _ => 0))), (b 15, .inl (cI, 7, .inl (fun _ => 0))), (b 16, .inl (cI, 7, .inl (fun _ => 0))), (b 17, .inl (cI, 56, .inl (fun _ => 0))), (b 18, .inl (cI, 30, .inl (fun _ => 0))), (h1, oX0 b1 0 0 0 0 0 0 0 0 0 0), (b1 10, .inl (cI, 12, .inl (fun _ => 0))), (b1 11, .inl (cI, 6, .inl (fun _ => 0))), (b1 12, .inl (cI, 7, .inl (fun _ => 0))), (b1 13, .inl (cI, 7, .inl (fun _ => 0))), (b1 14, .inl (cI, 7, .inl (fun _ => 0))), (b1 15, .inl (cI, 7, .inl (fun _ => 0))), (b1 16, .inl (cI, 7, .inl (fun _ => 0))), (b1 17, .inl (cI, 56, .inl (fun _ => 0))), (b1 18, .inl (cI, 30, .inl (fun _ => 0)))] H := hP
  have hD : va_D A [(h0, oX0 b 0 0 0 0 0 0 0 0 0 0), (b 10, .inl (cI, 12, .inl (fun _ => 0))), (b 11, .inl (cI, 6, .inl (fun _ => 0))), (b 12, .inl (cI, 7, .inl (fun _ => 0))), (b 13, .inl (cI, 7, .inl (fun _ => 0))), (b 14, .inl (cI, 7, .inl (fun _ => 0))), (b 15, .inl (cI, 7, .inl (fun _ => 0))), (b 16, .inl (cI, 7, .inl (fun _ => 0))), (b 17, .inl (cI, 56, .inl (fun _ => 0))), (b 18, .inl (cI, 30, .inl (fun _ => 0))), (h1, oX0 b1 0 0 0 0 0 0 0 0 0 0), (b1 10, .inl (cI, 12, .inl (fun _ => 0))), (b1 11, .inl (cI, 6, .inl (fun _ => 0))), (b1 12, .inl (cI, 7, .inl (fun _ => 0))), (b1 13, .inl (cI, 7, .inl (fun _ => 0))), (b1 14, .inl (cI, 7, .inl (fun _ => 0))), (b1 15, .inl (cI, 7, .inl (fun _ => 0))), (b1 16, .inl (cI, 7, .inl (fun _ => 0))), (b1 17, .inl (cI, 56, .inl (fun _ => 0))), (b1 18, .inl (cI, 30, .inl (fun _ => 0)))] := hD
  refine lv_aload_n hx hb dX0_become_72 rfl (lv_at hl 0 rfl) ?_
  refine lv_aload_n hx hb dX0_become_73 rfl (lv_at hl 1 rfl) ?_
  refine va_get (D := G) (ci := 0) (v := .int 0) (C := RX0) (T := TX0) (N := 19) hx hb hts iG_X0 hown hK hP 10 rfl rfl 9 (by decide) (hts _ w_89) (fun _ h9 => h9) rfl dX0_become_74 ?_
  refine va_put (D := G) (ci := 0) (v := .int 0) (ty := .int) (C := RX0) (T := TX0) (N := 19) hx hb hts iG_X0 tyX0 tyX0_ok nmX0 hown hK hP hD hS 0 rfl rfl 9 (by decide) (hts _ w_89) (fun _ h9 => h9) rfl (by decide +kernel) rfl rfl (Nat.le_of_ble_eq_true rfl) dX0_become_77 (fun H locs hP hD hS => ?_)
  have hP : va_P G vwCl [(h0, oX0 b 0 0 0 0 0 0 0 0 0 0), (b 10, .inl (cI, 12, .inl (fun _ => 0))), (b 11, .inl (cI, 6, .inl (fun _ => 0))), (b 12, .inl (cI, 7, .inl (fun _ => 0))), (b 13, .inl (cI, 7, .inl (fun _ => 0))), (b 14, .inl (cI, 7, .inl (fun _ => 0))), (b 15, .inl (cI, 7, .inl (fun _ => 0))), (b 16, .inl (cI, 7, .inl (fun _ => 0))), (b 17, .inl (cI, 56, .inl (fun _ => 0))), (b 18, .inl (cI, 30, .inl (fun _ => 0))), (h1, oX0 b1 0 0 0 0 0 0 0 0 0 0), (b1 10, .inl (cI, 12, .inl (fun _ => 0))), (b1 11, .inl (cI, 6, .inl (fun _ => 0))), (b1 12, .inl (cI, 7, .inl (fun _ => 0))), (b1 13, .inl (cI, 7, .inl (fun _ => 0))), (b1 14, .inl (cI, 7, .inl (fun _ => 0))), (b1 15, .inl (cI, 7, .inl (fun _ => 0))), (b1 16, .inl (cI, 7, .inl (fun _ => 0))), (b1 17, .inl (cI, 56, .inl (fun _ => 0))), (b1 18, .inl (cI, 30, .inl (fun _ => 0)))] H := hP
  have hD : va_D A [(h0, oX0 b 0 0 0 0 0 0 0 0 0 0), (b 10, .inl (cI, 12, .inl (fun _ => 0))), (b 11, .inl (cI, 6, .inl (fun _ => 0))), (b 12, .inl (cI, 7, .inl (fun _ => 0))), (b 13, .inl (cI, 7, .inl (fun _ => 0))), (b 14, .inl (cI, 7, .inl (fun _ => 0))), (b 15, .inl (cI, 7, .inl (fun _ => 0))), (b 16, .inl (cI, 7, .inl (fun _ => 0))), (b 17, .inl (cI, 56, .inl (fun _ => 0))), (b 18, .inl (cI, 30, .inl (fun _ => 0))), (h1, oX0 b1 0 0 0 0 0 0 0 0 0 0), (b1 10, .inl (cI, 12, .inl (fun _ => 0))), (b1 11, .inl (cI, 6, .inl (fun _ => 0))), (b1 12, .inl (cI, 7, .inl (fun _ => 0))), (b1 13, .inl (cI, 7, .inl (fun _ => 0))), (b1 14, .inl (cI, 7, .inl (fun _ => 0))), (b1 15, .inl (cI, 7, .inl (fun _ => 0))), (b1 16, .inl (cI, 7, .inl (fun _ => 0))), (b1 17, .inl (cI, 56, .inl (fun _ => 0))), (b1 18, .inl (cI, 30, .inl (fun _ => 0)))] := hD
  refine lv_aload_n hx hb dX0_become_80 rfl (lv_at hl 1 rfl) ?_
  refine va_get (D := G) (ci := 0) (v := .ref (b1 10)) (C := RX0) (T := TX0) (N := 19) hx hb hts iG_X0 hown hK hP 10 rfl rfl 10 (by decide) (hts _ w_91) (fun _ h9 => h9) rfl dX0_become_81 ?_
  refine lv_iconst (v := 0) hx hb dX0_become_84 (by decide) ?_
  refine lv_aload_n hx hb dX0_become_85 rfl (lv_at hl 0 rfl) ?_
  refine va_get (D := G) (ci := 0) (v := .ref (b 10)) (C := RX0) (T := TX0) (N := 19) hx hb hts iG_X0 hown hK hP 0 rfl rfl 10 (by decide) (hts _ w_91) (fun _ h9 => h9) rfl dX0_become_86 ?_
  refine lv_iconst (v := 0) hx hb dX0_become_89 (by decide) ?_
  refine lv_bipush (v := 12) hx hb dX0_become_90 (by decide) ?_
  refine va_copyi hx hb (by rw [hml]; exact hl.1.symm) hown (hts _ w_566) (hts _ w_568) (hts _ w_567) (hts _ w_17) hK hP hD hS 11 1 0 0 rfl rfl rfl rfl rfl (by decide) (by decide) (by decide) (Nat.le_of_ble_eq_true rfl) (Nat.le_of_ble_eq_true rfl) (fun _ _ => rfl) (Nat.le_of_ble_eq_true rfl) (Nat.le_of_ble_eq_true rfl) dX0_become_92 (fun H locs hP hD hS => ?_)
  rw [cpy_z] at hP hD
  have hP : va_P G vwCl [(h0, oX0 b 0 0 0 0 0 0 0 0 0 0), (b 10, .inl (cI, 12, .inl (fun _ => 0))), (b 11, .inl (cI, 6, .inl (fun _ => 0))), (b 12, .inl (cI, 7, .inl (fun _ => 0))), (b 13, .inl (cI, 7, .inl (fun _ => 0))), (b 14, .inl (cI, 7, .inl (fun _ => 0))), (b 15, .inl (cI, 7, .inl (fun _ => 0))), (b 16, .inl (cI, 7, .inl (fun _ => 0))), (b 17, .inl (cI, 56, .inl (fun _ => 0))), (b 18, .inl (cI, 30, .inl (fun _ => 0))), (h1, oX0 b1 0 0 0 0 0 0 0 0 0 0), (b1 10, .inl (cI, 12, .inl (fun _ => 0))), (b1 11, .inl (cI, 6, .inl (fun _ => 0))), (b1 12, .inl (cI, 7, .inl (fun _ => 0))), (b1 13, .inl (cI, 7, .inl (fun _ => 0))), (b1 14, .inl (cI, 7, .inl (fun _ => 0))), (b1 15, .inl (cI, 7, .inl (fun _ => 0))), (b1 16, .inl (cI, 7, .inl (fun _ => 0))), (b1 17, .inl (cI, 56, .inl (fun _ => 0))), (b1 18, .inl (cI, 30, .inl (fun _ => 0)))] H := hP
  have hD : va_D A [(h0, oX0 b 0 0 0 0 0 0 0 0 0 0), (b 10, .inl (cI, 12, .inl (fun _ => 0))), (b 11, .inl (cI, 6, .inl (fun _ => 0))), (b 12, .inl (cI, 7, .inl (fun _ => 0))), (b 13, .inl (cI, 7, .inl (fun _ => 0))), (b 14, .inl (cI, 7, .inl (fun _ => 0))), (b 15, .inl (cI, 7, .inl (fun _ => 0))), (b 16, .inl (cI, 7, .inl (fun _ => 0))), (b 17, .inl (cI, 56, .inl (fun _ => 0))), (b 18, .inl (cI, 30, .inl (fun _ => 0))), (h1, oX0 b1 0 0 0 0 0 0 0 0 0 0), (b1 10, .inl (cI, 12, .inl (fun _ => 0))), (b1 11, .inl (cI, 6, .inl (fun _ => 0))), (b1 12, .inl (cI, 7, .inl (fun _ => 0))), (b1 13, .inl (cI, 7, .inl (fun _ => 0))), (b1 14, .inl (cI, 7, .inl (fun _ => 0))), (b1 15, .inl (cI, 7, .inl (fun _ => 0))), (b1 16, .inl (cI, 7, .inl (fun _ => 0))), (b1 17, .inl (cI, 56, .inl (fun _ => 0))), (b1 18, .inl (cI, 30, .inl (fun _ => 0)))] := hD
  refine lv_aload_n hx hb dX0_become_95 rfl (lv_at hl 1 rfl) ?_
  refine va_get (D := G) (ci := 0) (v := .ref (b1 11)) (C := RX0) (T := TX0) (N := 19) hx hb hts iG_X0 hown hK hP 10 rfl rfl 11 (by decide) (hts _ w_94) (fun _ h9 => h9) rfl dX0_become_96 ?_
  refine lv_iconst (v := 0) hx hb dX0_become_99 (by decide) ?_
  refine lv_aload_n hx hb dX0_become_100 rfl (lv_at hl 0 rfl) ?_
  refine va_get (D := G) (ci := 0) (v := .ref (b 11)) (C := RX0) (T := TX0) (N := 19) hx hb hts iG_X0 hown hK hP 0 rfl rfl 11 (by decide) (hts _ w_94) (fun _ h9 => h9) rfl dX0_become_101 ?_
  refine lv_iconst (v := 0) hx hb dX0_become_104 (by decide) ?_
  refine lv_bipush (v := 6) hx hb dX0_become_105 (by decide) ?_
  refine va_copyi hx hb (by rw [hml]; exact hl.1.symm) hown (hts _ w_566) (hts _ w_568) (hts _ w_567) (hts _ w_17) hK hP hD hS 12 2 0 0 rfl rfl rfl rfl rfl (by decide) (by decide) (by decide) (Nat.le_of_ble_eq_true rfl) (Nat.le_of_ble_eq_true rfl) (fun _ _ => rfl) (Nat.le_of_ble_eq_true rfl) (Nat.le_of_ble_eq_true rfl) dX0_become_107 (fun H locs hP hD hS => ?_)
  rw [cpy_z] at hP hD
  have hP : va_P G vwCl [(h0, oX0 b 0 0 0 0 0 0 0 0 0 0), (b 10, .inl (cI, 12, .inl (fun _ => 0))), (b 11, .inl (cI, 6, .inl (fun _ => 0))), (b 12, .inl (cI, 7, .inl (fun _ => 0))), (b 13, .inl (cI, 7, .inl (fun _ => 0))), (b 14, .inl (cI, 7, .inl (fun _ => 0))), (b 15, .inl (cI, 7, .inl (fun _ => 0))), (b 16, .inl (cI, 7, .inl (fun _ => 0))), (b 17, .inl (cI, 56, .inl (fun _ => 0))), (b 18, .inl (cI, 30, .inl (fun _ => 0))), (h1, oX0 b1 0 0 0 0 0 0 0 0 0 0), (b1 10, .inl (cI, 12, .inl (fun _ => 0))), (b1 11, .inl (cI, 6, .inl (fun _ => 0))), (b1 12, .inl (cI, 7, .inl (fun _ => 0))), (b1 13, .inl (cI, 7, .inl (fun _ => 0))), (b1 14, .inl (cI, 7, .inl (fun _ => 0))), (b1 15, .inl (cI, 7, .inl (fun _ => 0))), (b1 16, .inl (cI, 7, .inl (fun _ => 0))), (b1 17, .inl (cI, 56, .inl (fun _ => 0))), (b1 18, .inl (cI, 30, .inl (fun _ => 0)))] H := hP
  have hD : va_D A [(h0, oX0 b 0 0 0 0 0 0 0 0 0 0), (b 10, .inl (cI, 12, .inl (fun _ => 0))), (b 11, .inl (cI, 6, .inl (fun _ => 0))), (b 12, .inl (cI, 7, .inl (fun _ => 0))), (b 13, .inl (cI, 7, .inl (fun _ => 0))), (b 14, .inl (cI, 7, .inl (fun _ => 0))), (b 15, .inl (cI, 7, .inl (fun _ => 0))), (b 16, .inl (cI, 7, .inl (fun _ => 0))), (b 17, .inl (cI, 56, .inl (fun _ => 0))), (b 18, .inl (cI, 30, .inl (fun _ => 0))), (h1, oX0 b1 0 0 0 0 0 0 0 0 0 0), (b1 10, .inl (cI, 12, .inl (fun _ => 0))), (b1 11, .inl (cI, 6, .inl (fun _ => 0))), (b1 12, .inl (cI, 7, .inl (fun _ => 0))), (b1 13, .inl (cI, 7, .inl (fun _ => 0))), (b1 14, .inl (cI, 7, .inl (fun _ => 0))), (b1 15, .inl (cI, 7, .inl (fun _ => 0))), (b1 16, .inl (cI, 7, .inl (fun _ => 0))), (b1 17, .inl (cI, 56, .inl (fun _ => 0))), (b1 18, .inl (cI, 30, .inl (fun _ => 0)))] := hD
  refine lv_aload_n hx hb dX0_become_110 rfl (lv_at hl 1 rfl) ?_
  refine va_get (D := G) (ci := 0) (v := .ref (b1 12)) (C := RX0) (T := TX0) (N := 19) hx hb hts iG_X0 hown hK hP 10 rfl rfl 12 (by decide) (hts _ w_97) (fun _ h9 => h9) rfl dX0_become_111 ?_
  refine lv_iconst (v := 0) hx hb dX0_become_114 (by decide) ?_
  refine lv_aload_n hx hb dX0_become_115 rfl (lv_at hl 0 rfl) ?_
  refine va_get (D := G) (ci := 0) (v := .ref (b 12)) (C := RX0) (T := TX0) (N := 19) hx hb hts iG_X0 hown hK hP 0 rfl rfl 12 (by decide) (hts _ w_97) (fun _ h9 => h9) rfl dX0_become_116 ?_
  refine lv_iconst (v := 0) hx hb dX0_become_119 (by decide) ?_
  refine lv_bipush (v := 7) hx hb dX0_become_120 (by decide) ?_
  refine va_copyi hx hb (by rw [hml]; exact hl.1.symm) hown (hts _ w_566) (hts _ w_568) (hts _ w_567) (hts _ w_17) hK hP hD hS 13 3 0 0 rfl rfl rfl rfl rfl (by decide) (by decide) (by decide) (Nat.le_of_ble_eq_true rfl) (Nat.le_of_ble_eq_true rfl) (fun _ _ => rfl) (Nat.le_of_ble_eq_true rfl) (Nat.le_of_ble_eq_true rfl) dX0_become_122 (fun H locs hP hD hS => ?_)
  rw [cpy_z] at hP hD
  have hP : va_P G vwCl [(h0, oX0 b 0 0 0 0 0 0 0 0 0 0), (b 10, .inl (cI, 12, .inl (fun _ => 0))), (b 11, .inl (cI, 6, .inl (fun _ => 0))), (b 12, .inl (cI, 7, .inl (fun _ => 0))), (b 13, .inl (cI, 7, .inl (fun _ => 0))), (b 14, .inl (cI, 7, .inl (fun _ => 0))), (b 15, .inl (cI, 7, .inl (fun _ => 0))), (b 16, .inl (cI, 7, .inl (fun _ => 0))), (b 17, .inl (cI, 56, .inl (fun _ => 0))), (b 18, .inl (cI, 30, .inl (fun _ => 0))), (h1, oX0 b1 0 0 0 0 0 0 0 0 0 0), (b1 10, .inl (cI, 12, .inl (fun _ => 0))), (b1 11, .inl (cI, 6, .inl (fun _ => 0))), (b1 12, .inl (cI, 7, .inl (fun _ => 0))), (b1 13, .inl (cI, 7, .inl (fun _ => 0))), (b1 14, .inl (cI, 7, .inl (fun _ => 0))), (b1 15, .inl (cI, 7, .inl (fun _ => 0))), (b1 16, .inl (cI, 7, .inl (fun _ => 0))), (b1 17, .inl (cI, 56, .inl (fun _ => 0))), (b1 18, .inl (cI, 30, .inl (fun _ => 0)))] H := hP
  have hD : va_D A [(h0, oX0 b 0 0 0 0 0 0 0 0 0 0), (b 10, .inl (cI, 12, .inl (fun _ => 0))), (b 11, .inl (cI, 6, .inl (fun _ => 0))), (b 12, .inl (cI, 7, .inl (fun _ => 0))), (b 13, .inl (cI, 7, .inl (fun _ => 0))), (b 14, .inl (cI, 7, .inl (fun _ => 0))), (b 15, .inl (cI, 7, .inl (fun _ => 0))), (b 16, .inl (cI, 7, .inl (fun _ => 0))), (b 17, .inl (cI, 56, .inl (fun _ => 0))), (b 18, .inl (cI, 30, .inl (fun _ => 0))), (h1, oX0 b1 0 0 0 0 0 0 0 0 0 0), (b1 10, .inl (cI, 12, .inl (fun _ => 0))), (b1 11, .inl (cI, 6, .inl (fun _ => 0))), (b1 12, .inl (cI, 7, .inl (fun _ => 0))), (b1 13, .inl (cI, 7, .inl (fun _ => 0))), (b1 14, .inl (cI, 7, .inl (fun _ => 0))), (b1 15, .inl (cI, 7, .inl (fun _ => 0))), (b1 16, .inl (cI, 7, .inl (fun _ => 0))), (b1 17, .inl (cI, 56, .inl (fun _ => 0))), (b1 18, .inl (cI, 30, .inl (fun _ => 0)))] := hD
  refine lv_aload_n hx hb dX0_become_125 rfl (lv_at hl 1 rfl) ?_
  refine va_get (D := G) (ci := 0) (v := .ref (b1 13)) (C := RX0) (T := TX0) (N := 19) hx hb hts iG_X0 hown hK hP 10 rfl rfl 13 (by decide) (hts _ w_101) (fun _ h9 => h9) rfl dX0_become_126 ?_
  refine lv_iconst (v := 0) hx hb dX0_become_129 (by decide) ?_
  refine lv_aload_n hx hb dX0_become_130 rfl (lv_at hl 0 rfl) ?_
  refine va_get (D := G) (ci := 0) (v := .ref (b 13)) (C := RX0) (T := TX0) (N := 19) hx hb hts iG_X0 hown hK hP 0 rfl rfl 13 (by decide) (hts _ w_101) (fun _ h9 => h9) rfl dX0_become_131 ?_
  refine lv_iconst (v := 0) hx hb dX0_become_134 (by decide) ?_
  refine lv_bipush (v := 7) hx hb dX0_become_135 (by decide) ?_
  refine va_copyi hx hb (by rw [hml]; exact hl.1.symm) hown (hts _ w_566) (hts _ w_568) (hts _ w_567) (hts _ w_17) hK hP hD hS 14 4 0 0 rfl rfl rfl rfl rfl (by decide) (by decide) (by decide) (Nat.le_of_ble_eq_true rfl) (Nat.le_of_ble_eq_true rfl) (fun _ _ => rfl) (Nat.le_of_ble_eq_true rfl) (Nat.le_of_ble_eq_true rfl) dX0_become_137 (fun H locs hP hD hS => ?_)
  rw [cpy_z] at hP hD
  have hP : va_P G vwCl [(h0, oX0 b 0 0 0 0 0 0 0 0 0 0), (b 10, .inl (cI, 12, .inl (fun _ => 0))), (b 11, .inl (cI, 6, .inl (fun _ => 0))), (b 12, .inl (cI, 7, .inl (fun _ => 0))), (b 13, .inl (cI, 7, .inl (fun _ => 0))), (b 14, .inl (cI, 7, .inl (fun _ => 0))), (b 15, .inl (cI, 7, .inl (fun _ => 0))), (b 16, .inl (cI, 7, .inl (fun _ => 0))), (b 17, .inl (cI, 56, .inl (fun _ => 0))), (b 18, .inl (cI, 30, .inl (fun _ => 0))), (h1, oX0 b1 0 0 0 0 0 0 0 0 0 0), (b1 10, .inl (cI, 12, .inl (fun _ => 0))), (b1 11, .inl (cI, 6, .inl (fun _ => 0))), (b1 12, .inl (cI, 7, .inl (fun _ => 0))), (b1 13, .inl (cI, 7, .inl (fun _ => 0))), (b1 14, .inl (cI, 7, .inl (fun _ => 0))), (b1 15, .inl (cI, 7, .inl (fun _ => 0))), (b1 16, .inl (cI, 7, .inl (fun _ => 0))), (b1 17, .inl (cI, 56, .inl (fun _ => 0))), (b1 18, .inl (cI, 30, .inl (fun _ => 0)))] H := hP
  have hD : va_D A [(h0, oX0 b 0 0 0 0 0 0 0 0 0 0), (b 10, .inl (cI, 12, .inl (fun _ => 0))), (b 11, .inl (cI, 6, .inl (fun _ => 0))), (b 12, .inl (cI, 7, .inl (fun _ => 0))), (b 13, .inl (cI, 7, .inl (fun _ => 0))), (b 14, .inl (cI, 7, .inl (fun _ => 0))), (b 15, .inl (cI, 7, .inl (fun _ => 0))), (b 16, .inl (cI, 7, .inl (fun _ => 0))), (b 17, .inl (cI, 56, .inl (fun _ => 0))), (b 18, .inl (cI, 30, .inl (fun _ => 0))), (h1, oX0 b1 0 0 0 0 0 0 0 0 0 0), (b1 10, .inl (cI, 12, .inl (fun _ => 0))), (b1 11, .inl (cI, 6, .inl (fun _ => 0))), (b1 12, .inl (cI, 7, .inl (fun _ => 0))), (b1 13, .inl (cI, 7, .inl (fun _ => 0))), (b1 14, .inl (cI, 7, .inl (fun _ => 0))), (b1 15, .inl (cI, 7, .inl (fun _ => 0))), (b1 16, .inl (cI, 7, .inl (fun _ => 0))), (b1 17, .inl (cI, 56, .inl (fun _ => 0))), (b1 18, .inl (cI, 30, .inl (fun _ => 0)))] := hD
  refine lv_aload_n hx hb dX0_become_140 rfl (lv_at hl 1 rfl) ?_
  refine va_get (D := G) (ci := 0) (v := .ref (b1 14)) (C := RX0) (T := TX0) (N := 19) hx hb hts iG_X0 hown hK hP 10 rfl rfl 14 (by decide) (hts _ w_105) (fun _ h9 => h9) rfl dX0_become_141 ?_
  refine lv_iconst (v := 0) hx hb dX0_become_144 (by decide) ?_
  refine lv_aload_n hx hb dX0_become_145 rfl (lv_at hl 0 rfl) ?_
  refine va_get (D := G) (ci := 0) (v := .ref (b 14)) (C := RX0) (T := TX0) (N := 19) hx hb hts iG_X0 hown hK hP 0 rfl rfl 14 (by decide) (hts _ w_105) (fun _ h9 => h9) rfl dX0_become_146 ?_
  refine lv_iconst (v := 0) hx hb dX0_become_149 (by decide) ?_
  refine lv_bipush (v := 7) hx hb dX0_become_150 (by decide) ?_
  refine va_copyi hx hb (by rw [hml]; exact hl.1.symm) hown (hts _ w_566) (hts _ w_568) (hts _ w_567) (hts _ w_17) hK hP hD hS 15 5 0 0 rfl rfl rfl rfl rfl (by decide) (by decide) (by decide) (Nat.le_of_ble_eq_true rfl) (Nat.le_of_ble_eq_true rfl) (fun _ _ => rfl) (Nat.le_of_ble_eq_true rfl) (Nat.le_of_ble_eq_true rfl) dX0_become_152 (fun H locs hP hD hS => ?_)
  rw [cpy_z] at hP hD
  have hP : va_P G vwCl [(h0, oX0 b 0 0 0 0 0 0 0 0 0 0), (b 10, .inl (cI, 12, .inl (fun _ => 0))), (b 11, .inl (cI, 6, .inl (fun _ => 0))), (b 12, .inl (cI, 7, .inl (fun _ => 0))), (b 13, .inl (cI, 7, .inl (fun _ => 0))), (b 14, .inl (cI, 7, .inl (fun _ => 0))), (b 15, .inl (cI, 7, .inl (fun _ => 0))), (b 16, .inl (cI, 7, .inl (fun _ => 0))), (b 17, .inl (cI, 56, .inl (fun _ => 0))), (b 18, .inl (cI, 30, .inl (fun _ => 0))), (h1, oX0 b1 0 0 0 0 0 0 0 0 0 0), (b1 10, .inl (cI, 12, .inl (fun _ => 0))), (b1 11, .inl (cI, 6, .inl (fun _ => 0))), (b1 12, .inl (cI, 7, .inl (fun _ => 0))), (b1 13, .inl (cI, 7, .inl (fun _ => 0))), (b1 14, .inl (cI, 7, .inl (fun _ => 0))), (b1 15, .inl (cI, 7, .inl (fun _ => 0))), (b1 16, .inl (cI, 7, .inl (fun _ => 0))), (b1 17, .inl (cI, 56, .inl (fun _ => 0))), (b1 18, .inl (cI, 30, .inl (fun _ => 0)))] H := hP
  have hD : va_D A [(h0, oX0 b 0 0 0 0 0 0 0 0 0 0), (b 10, .inl (cI, 12, .inl (fun _ => 0))), (b 11, .inl (cI, 6, .inl (fun _ => 0))), (b 12, .inl (cI, 7, .inl (fun _ => 0))), (b 13, .inl (cI, 7, .inl (fun _ => 0))), (b 14, .inl (cI, 7, .inl (fun _ => 0))), (b 15, .inl (cI, 7, .inl (fun _ => 0))), (b 16, .inl (cI, 7, .inl (fun _ => 0))), (b 17, .inl (cI, 56, .inl (fun _ => 0))), (b 18, .inl (cI, 30, .inl (fun _ => 0))), (h1, oX0 b1 0 0 0 0 0 0 0 0 0 0), (b1 10, .inl (cI, 12, .inl (fun _ => 0))), (b1 11, .inl (cI, 6, .inl (fun _ => 0))), (b1 12, .inl (cI, 7, .inl (fun _ => 0))), (b1 13, .inl (cI, 7, .inl (fun _ => 0))), (b1 14, .inl (cI, 7, .inl (fun _ => 0))), (b1 15, .inl (cI, 7, .inl (fun _ => 0))), (b1 16, .inl (cI, 7, .inl (fun _ => 0))), (b1 17, .inl (cI, 56, .inl (fun _ => 0))), (b1 18, .inl (cI, 30, .inl (fun _ => 0)))] := hD
  refine lv_aload_n hx hb dX0_become_155 rfl (lv_at hl 1 rfl) ?_
  refine va_get (D := G) (ci := 0) (v := .ref (b1 15)) (C := RX0) (T := TX0) (N := 19) hx hb hts iG_X0 hown hK hP 10 rfl rfl 15 (by decide) (hts _ w_109) (fun _ h9 => h9) rfl dX0_become_156 ?_
  refine lv_iconst (v := 0) hx hb dX0_become_159 (by decide) ?_
  refine lv_aload_n hx hb dX0_become_160 rfl (lv_at hl 0 rfl) ?_
  refine va_get (D := G) (ci := 0) (v := .ref (b 15)) (C := RX0) (T := TX0) (N := 19) hx hb hts iG_X0 hown hK hP 0 rfl rfl 15 (by decide) (hts _ w_109) (fun _ h9 => h9) rfl dX0_become_161 ?_
  refine lv_iconst (v := 0) hx hb dX0_become_164 (by decide) ?_
  refine lv_bipush (v := 7) hx hb dX0_become_165 (by decide) ?_
  refine va_copyi hx hb (by rw [hml]; exact hl.1.symm) hown (hts _ w_566) (hts _ w_568) (hts _ w_567) (hts _ w_17) hK hP hD hS 16 6 0 0 rfl rfl rfl rfl rfl (by decide) (by decide) (by decide) (Nat.le_of_ble_eq_true rfl) (Nat.le_of_ble_eq_true rfl) (fun _ _ => rfl) (Nat.le_of_ble_eq_true rfl) (Nat.le_of_ble_eq_true rfl) dX0_become_167 (fun H locs hP hD hS => ?_)
  rw [cpy_z] at hP hD
  have hP : va_P G vwCl [(h0, oX0 b 0 0 0 0 0 0 0 0 0 0), (b 10, .inl (cI, 12, .inl (fun _ => 0))), (b 11, .inl (cI, 6, .inl (fun _ => 0))), (b 12, .inl (cI, 7, .inl (fun _ => 0))), (b 13, .inl (cI, 7, .inl (fun _ => 0))), (b 14, .inl (cI, 7, .inl (fun _ => 0))), (b 15, .inl (cI, 7, .inl (fun _ => 0))), (b 16, .inl (cI, 7, .inl (fun _ => 0))), (b 17, .inl (cI, 56, .inl (fun _ => 0))), (b 18, .inl (cI, 30, .inl (fun _ => 0))), (h1, oX0 b1 0 0 0 0 0 0 0 0 0 0), (b1 10, .inl (cI, 12, .inl (fun _ => 0))), (b1 11, .inl (cI, 6, .inl (fun _ => 0))), (b1 12, .inl (cI, 7, .inl (fun _ => 0))), (b1 13, .inl (cI, 7, .inl (fun _ => 0))), (b1 14, .inl (cI, 7, .inl (fun _ => 0))), (b1 15, .inl (cI, 7, .inl (fun _ => 0))), (b1 16, .inl (cI, 7, .inl (fun _ => 0))), (b1 17, .inl (cI, 56, .inl (fun _ => 0))), (b1 18, .inl (cI, 30, .inl (fun _ => 0)))] H := hP
  have hD : va_D A [(h0, oX0 b 0 0 0 0 0 0 0 0 0 0), (b 10, .inl (cI, 12, .inl (fun _ => 0))), (b 11, .inl (cI, 6, .inl (fun _ => 0))), (b 12, .inl (cI, 7, .inl (fun _ => 0))), (b 13, .inl (cI, 7, .inl (fun _ => 0))), (b 14, .inl (cI, 7, .inl (fun _ => 0))), (b 15, .inl (cI, 7, .inl (fun _ => 0))), (b 16, .inl (cI, 7, .inl (fun _ => 0))), (b 17, .inl (cI, 56, .inl (fun _ => 0))), (b 18, .inl (cI, 30, .inl (fun _ => 0))), (h1, oX0 b1 0 0 0 0 0 0 0 0 0 0), (b1 10, .inl (cI, 12, .inl (fun _ => 0))), (b1 11, .inl (cI, 6, .inl (fun _ => 0))), (b1 12, .inl (cI, 7, .inl (fun _ => 0))), (b1 13, .inl (cI, 7, .inl (fun _ => 0))), (b1 14, .inl (cI, 7, .inl (fun _ => 0))), (b1 15, .inl (cI, 7, .inl (fun _ => 0))), (b1 16, .inl (cI, 7, .inl (fun _ => 0))), (b1 17, .inl (cI, 56, .inl (fun _ => 0))), (b1 18, .inl (cI, 30, .inl (fun _ => 0)))] := hD
  refine lv_aload_n hx hb dX0_become_170 rfl (lv_at hl 1 rfl) ?_
  refine va_get (D := G) (ci := 0) (v := .ref (b1 16)) (C := RX0) (T := TX0) (N := 19) hx hb hts iG_X0 hown hK hP 10 rfl rfl 16 (by decide) (hts _ w_113) (fun _ h9 => h9) rfl dX0_become_171 ?_
  refine lv_iconst (v := 0) hx hb dX0_become_174 (by decide) ?_
  refine lv_aload_n hx hb dX0_become_175 rfl (lv_at hl 0 rfl) ?_
  refine va_get (D := G) (ci := 0) (v := .ref (b 16)) (C := RX0) (T := TX0) (N := 19) hx hb hts iG_X0 hown hK hP 0 rfl rfl 16 (by decide) (hts _ w_113) (fun _ h9 => h9) rfl dX0_become_176 ?_
  refine lv_iconst (v := 0) hx hb dX0_become_179 (by decide) ?_
  refine lv_bipush (v := 7) hx hb dX0_become_180 (by decide) ?_
  refine va_copyi hx hb (by rw [hml]; exact hl.1.symm) hown (hts _ w_566) (hts _ w_568) (hts _ w_567) (hts _ w_17) hK hP hD hS 17 7 0 0 rfl rfl rfl rfl rfl (by decide) (by decide) (by decide) (Nat.le_of_ble_eq_true rfl) (Nat.le_of_ble_eq_true rfl) (fun _ _ => rfl) (Nat.le_of_ble_eq_true rfl) (Nat.le_of_ble_eq_true rfl) dX0_become_182 (fun H locs hP hD hS => ?_)
  rw [cpy_z] at hP hD
  have hP : va_P G vwCl [(h0, oX0 b 0 0 0 0 0 0 0 0 0 0), (b 10, .inl (cI, 12, .inl (fun _ => 0))), (b 11, .inl (cI, 6, .inl (fun _ => 0))), (b 12, .inl (cI, 7, .inl (fun _ => 0))), (b 13, .inl (cI, 7, .inl (fun _ => 0))), (b 14, .inl (cI, 7, .inl (fun _ => 0))), (b 15, .inl (cI, 7, .inl (fun _ => 0))), (b 16, .inl (cI, 7, .inl (fun _ => 0))), (b 17, .inl (cI, 56, .inl (fun _ => 0))), (b 18, .inl (cI, 30, .inl (fun _ => 0))), (h1, oX0 b1 0 0 0 0 0 0 0 0 0 0), (b1 10, .inl (cI, 12, .inl (fun _ => 0))), (b1 11, .inl (cI, 6, .inl (fun _ => 0))), (b1 12, .inl (cI, 7, .inl (fun _ => 0))), (b1 13, .inl (cI, 7, .inl (fun _ => 0))), (b1 14, .inl (cI, 7, .inl (fun _ => 0))), (b1 15, .inl (cI, 7, .inl (fun _ => 0))), (b1 16, .inl (cI, 7, .inl (fun _ => 0))), (b1 17, .inl (cI, 56, .inl (fun _ => 0))), (b1 18, .inl (cI, 30, .inl (fun _ => 0)))] H := hP
  have hD : va_D A [(h0, oX0 b 0 0 0 0 0 0 0 0 0 0), (b 10, .inl (cI, 12, .inl (fun _ => 0))), (b 11, .inl (cI, 6, .inl (fun _ => 0))), (b 12, .inl (cI, 7, .inl (fun _ => 0))), (b 13, .inl (cI, 7, .inl (fun _ => 0))), (b 14, .inl (cI, 7, .inl (fun _ => 0))), (b 15, .inl (cI, 7, .inl (fun _ => 0))), (b 16, .inl (cI, 7, .inl (fun _ => 0))), (b 17, .inl (cI, 56, .inl (fun _ => 0))), (b 18, .inl (cI, 30, .inl (fun _ => 0))), (h1, oX0 b1 0 0 0 0 0 0 0 0 0 0), (b1 10, .inl (cI, 12, .inl (fun _ => 0))), (b1 11, .inl (cI, 6, .inl (fun _ => 0))), (b1 12, .inl (cI, 7, .inl (fun _ => 0))), (b1 13, .inl (cI, 7, .inl (fun _ => 0))), (b1 14, .inl (cI, 7, .inl (fun _ => 0))), (b1 15, .inl (cI, 7, .inl (fun _ => 0))), (b1 16, .inl (cI, 7, .inl (fun _ => 0))), (b1 17, .inl (cI, 56, .inl (fun _ => 0))), (b1 18, .inl (cI, 30, .inl (fun _ => 0)))] := hD
  refine lv_aload_n hx hb dX0_become_185 rfl (lv_at hl 1 rfl) ?_
  refine va_get (D := G) (ci := 0) (v := .ref (b1 17)) (C := RX0) (T := TX0) (N := 19) hx hb hts iG_X0 hown hK hP 10 rfl rfl 17 (by decide) (hts _ w_117) (fun _ h9 => h9) rfl dX0_become_186 ?_
  refine lv_iconst (v := 0) hx hb dX0_become_189 (by decide) ?_
  refine lv_aload_n hx hb dX0_become_190 rfl (lv_at hl 0 rfl) ?_
  refine va_get (D := G) (ci := 0) (v := .ref (b 17)) (C := RX0) (T := TX0) (N := 19) hx hb hts iG_X0 hown hK hP 0 rfl rfl 17 (by decide) (hts _ w_117) (fun _ h9 => h9) rfl dX0_become_191 ?_
  refine lv_iconst (v := 0) hx hb dX0_become_194 (by decide) ?_
  refine lv_bipush (v := 56) hx hb dX0_become_195 (by decide) ?_
  refine va_copyi hx hb (by rw [hml]; exact hl.1.symm) hown (hts _ w_566) (hts _ w_568) (hts _ w_567) (hts _ w_17) hK hP hD hS 18 8 0 0 rfl rfl rfl rfl rfl (by decide) (by decide) (by decide) (Nat.le_of_ble_eq_true rfl) (Nat.le_of_ble_eq_true rfl) (fun _ _ => rfl) (Nat.le_of_ble_eq_true rfl) (Nat.le_of_ble_eq_true rfl) dX0_become_197 (fun H locs hP hD hS => ?_)
  rw [cpy_z] at hP hD
  have hP : va_P G vwCl [(h0, oX0 b 0 0 0 0 0 0 0 0 0 0), (b 10, .inl (cI, 12, .inl (fun _ => 0))), (b 11, .inl (cI, 6, .inl (fun _ => 0))), (b 12, .inl (cI, 7, .inl (fun _ => 0))), (b 13, .inl (cI, 7, .inl (fun _ => 0))), (b 14, .inl (cI, 7, .inl (fun _ => 0))), (b 15, .inl (cI, 7, .inl (fun _ => 0))), (b 16, .inl (cI, 7, .inl (fun _ => 0))), (b 17, .inl (cI, 56, .inl (fun _ => 0))), (b 18, .inl (cI, 30, .inl (fun _ => 0))), (h1, oX0 b1 0 0 0 0 0 0 0 0 0 0), (b1 10, .inl (cI, 12, .inl (fun _ => 0))), (b1 11, .inl (cI, 6, .inl (fun _ => 0))), (b1 12, .inl (cI, 7, .inl (fun _ => 0))), (b1 13, .inl (cI, 7, .inl (fun _ => 0))), (b1 14, .inl (cI, 7, .inl (fun _ => 0))), (b1 15, .inl (cI, 7, .inl (fun _ => 0))), (b1 16, .inl (cI, 7, .inl (fun _ => 0))), (b1 17, .inl (cI, 56, .inl (fun _ => 0))), (b1 18, .inl (cI, 30, .inl (fun _ => 0)))] H := hP
  have hD : va_D A [(h0, oX0 b 0 0 0 0 0 0 0 0 0 0), (b 10, .inl (cI, 12, .inl (fun _ => 0))), (b 11, .inl (cI, 6, .inl (fun _ => 0))), (b 12, .inl (cI, 7, .inl (fun _ => 0))), (b 13, .inl (cI, 7, .inl (fun _ => 0))), (b 14, .inl (cI, 7, .inl (fun _ => 0))), (b 15, .inl (cI, 7, .inl (fun _ => 0))), (b 16, .inl (cI, 7, .inl (fun _ => 0))), (b 17, .inl (cI, 56, .inl (fun _ => 0))), (b 18, .inl (cI, 30, .inl (fun _ => 0))), (h1, oX0 b1 0 0 0 0 0 0 0 0 0 0), (b1 10, .inl (cI, 12, .inl (fun _ => 0))), (b1 11, .inl (cI, 6, .inl (fun _ => 0))), (b1 12, .inl (cI, 7, .inl (fun _ => 0))), (b1 13, .inl (cI, 7, .inl (fun _ => 0))), (b1 14, .inl (cI, 7, .inl (fun _ => 0))), (b1 15, .inl (cI, 7, .inl (fun _ => 0))), (b1 16, .inl (cI, 7, .inl (fun _ => 0))), (b1 17, .inl (cI, 56, .inl (fun _ => 0))), (b1 18, .inl (cI, 30, .inl (fun _ => 0)))] := hD
  refine lv_aload_n hx hb dX0_become_200 rfl (lv_at hl 1 rfl) ?_
  refine va_get (D := G) (ci := 0) (v := .ref (b1 18)) (C := RX0) (T := TX0) (N := 19) hx hb hts iG_X0 hown hK hP 10 rfl rfl 18 (by decide) (hts _ w_121) (fun _ h9 => h9) rfl dX0_become_201 ?_
  refine lv_iconst (v := 0) hx hb dX0_become_204 (by decide) ?_
  refine lv_aload_n hx hb dX0_become_205 rfl (lv_at hl 0 rfl) ?_
  refine va_get (D := G) (ci := 0) (v := .ref (b 18)) (C := RX0) (T := TX0) (N := 19) hx hb hts iG_X0 hown hK hP 0 rfl rfl 18 (by decide) (hts _ w_121) (fun _ h9 => h9) rfl dX0_become_206 ?_
  refine lv_iconst (v := 0) hx hb dX0_become_209 (by decide) ?_
  refine lv_bipush (v := 30) hx hb dX0_become_210 (by decide) ?_
  refine va_copyi hx hb (by rw [hml]; exact hl.1.symm) hown (hts _ w_566) (hts _ w_568) (hts _ w_567) (hts _ w_17) hK hP hD hS 19 9 0 0 rfl rfl rfl rfl rfl (by decide) (by decide) (by decide) (Nat.le_of_ble_eq_true rfl) (Nat.le_of_ble_eq_true rfl) (fun _ _ => rfl) (Nat.le_of_ble_eq_true rfl) (Nat.le_of_ble_eq_true rfl) dX0_become_212 (fun H locs hP hD hS => ?_)
  rw [cpy_z] at hP hD
  have hP : va_P G vwCl [(h0, oX0 b 0 0 0 0 0 0 0 0 0 0), (b 10, .inl (cI, 12, .inl (fun _ => 0))), (b 11, .inl (cI, 6, .inl (fun _ => 0))), (b 12, .inl (cI, 7, .inl (fun _ => 0))), (b 13, .inl (cI, 7, .inl (fun _ => 0))), (b 14, .inl (cI, 7, .inl (fun _ => 0))), (b 15, .inl (cI, 7, .inl (fun _ => 0))), (b 16, .inl (cI, 7, .inl (fun _ => 0))), (b 17, .inl (cI, 56, .inl (fun _ => 0))), (b 18, .inl (cI, 30, .inl (fun _ => 0))), (h1, oX0 b1 0 0 0 0 0 0 0 0 0 0), (b1 10, .inl (cI, 12, .inl (fun _ => 0))), (b1 11, .inl (cI, 6, .inl (fun _ => 0))), (b1 12, .inl (cI, 7, .inl (fun _ => 0))), (b1 13, .inl (cI, 7, .inl (fun _ => 0))), (b1 14, .inl (cI, 7, .inl (fun _ => 0))), (b1 15, .inl (cI, 7, .inl (fun _ => 0))), (b1 16, .inl (cI, 7, .inl (fun _ => 0))), (b1 17, .inl (cI, 56, .inl (fun _ => 0))), (b1 18, .inl (cI, 30, .inl (fun _ => 0)))] H := hP
  have hD : va_D A [(h0, oX0 b 0 0 0 0 0 0 0 0 0 0), (b 10, .inl (cI, 12, .inl (fun _ => 0))), (b 11, .inl (cI, 6, .inl (fun _ => 0))), (b 12, .inl (cI, 7, .inl (fun _ => 0))), (b 13, .inl (cI, 7, .inl (fun _ => 0))), (b 14, .inl (cI, 7, .inl (fun _ => 0))), (b 15, .inl (cI, 7, .inl (fun _ => 0))), (b 16, .inl (cI, 7, .inl (fun _ => 0))), (b 17, .inl (cI, 56, .inl (fun _ => 0))), (b 18, .inl (cI, 30, .inl (fun _ => 0))), (h1, oX0 b1 0 0 0 0 0 0 0 0 0 0), (b1 10, .inl (cI, 12, .inl (fun _ => 0))), (b1 11, .inl (cI, 6, .inl (fun _ => 0))), (b1 12, .inl (cI, 7, .inl (fun _ => 0))), (b1 13, .inl (cI, 7, .inl (fun _ => 0))), (b1 14, .inl (cI, 7, .inl (fun _ => 0))), (b1 15, .inl (cI, 7, .inl (fun _ => 0))), (b1 16, .inl (cI, 7, .inl (fun _ => 0))), (b1 17, .inl (cI, 56, .inl (fun _ => 0))), (b1 18, .inl (cI, 30, .inl (fun _ => 0)))] := hD
  exact hret _ _ _ _ () hP hD hS dX0_become_215 trivial
set_option maxHeartbeats 4000000 in
set_option maxRecDepth 100000 in
theorem f_X7_asNow (l : Launch) (G : va_G) (cI cJ cZ cB cQ : ClassId) (sz : Nat) (h0 : Nat) (h1 : Nat) (b1 : Nat → Nat) : CV l yX7_asNow (wl_ yX7_asNow cX7_asNow 2 none) ({ frames := 1, cells := 0, slots := 0, locals := 23 } : Room) G (TY cI cJ cZ cB cQ) [.ref h0, .ref h1] [(h0, oX7 z0 0 0 0 0 0 0), (h1, oX0 b1 0 0 0 0 0 0 0 0 0 0)] sz (fun (u : Unit) => True) (fun _ : Unit => [(h0, oX7 z0 0 0 0 (-1) (-1) (-1)), (h1, oX0 b1 0 0 0 0 0 0 0 0 0 0)]) 0 0 := by
  refine CV.go (cc := cX7_asNow) (maxL := 2) (ret := none) (by decide) rfl (Nat.le_of_ble_eq_true rfl) ?_
  intro p e s m below meth c A ls Q hBd hret
  obtain ⟨hx, hb, hr, hml, hts, hown, hlk, hnm, hP, hK, hD, hA, hZ, hl⟩ := hBd
  have hown : s.vm.findClass RX7 = some m.cls := hown
  have hl : lv_has ls 2 [(0, .ref h0), (1, .ref h1)] := hl
  have hS : va_S A s.heap s.heap [] := va_S.rf
  refine lv_aload_n hx hb dX7_asNow_0 rfl (lv_at hl 0 rfl) ?_
  refine lv_aload_n hx hb dX7_asNow_1 rfl (lv_at hl 1 rfl) ?_
  refine va_getN (D := G) (ci := 0) (v := .int 0) (C := RX0) (T := TX0) (N := 19) hx hb hts iG_X0 hown hK hP 1 rfl rfl 2 (by decide) (nz_use hZ nw_63 rfl) (fun _ h9 => h9) rfl dX7_asNow_2 ?_
  refine va_put (D := G) (ci := 7) (v := .int 0) (ty := .int) (C := RX7) (T := TX7) (N := 6) hx hb hts iG_X7 tyX7 tyX7_ok nmX7 hown hK hP hD hS 0 rfl rfl 0 (by decide) (hts _ w_198) (fun _ h9 => h9) rfl (by decide +kernel) rfl rfl (Nat.le_of_ble_eq_true rfl) dX7_asNow_5 (fun H locs hP hD hS => ?_)
  have hP : va_P G vwCl [(h0, oX7 z0 0 0 0 0 0 0), (h1, oX0 b1 0 0 0 0 0 0 0 0 0 0)] H := hP
  have hD : va_D A [(h0, oX7 z0 0 0 0 0 0 0), (h1, oX0 b1 0 0 0 0 0 0 0 0 0 0)] := hD
  refine lv_aload_n hx hb dX7_asNow_8 rfl (lv_at hl 0 rfl) ?_
  refine lv_aload_n hx hb dX7_asNow_9 rfl (lv_at hl 1 rfl) ?_
  refine k_i (wc := [(h1, oX0 b1 0 0 0 0 0 0 0 0 0 0)]) (wr := [(h0, oX7 z0 0 0 0 0 0 0)]) hP hD hS hA [1] [0] rfl rfl rfl (by decide) (va_runVN (As := []) (rest := [.ref h0]) ⟨hx, hb, hml, hown, hts⟩ (f_X0_walkerBits l G cI cJ cZ cB cQ _ h1 b1) ⟨va_cnB (host := "WidowRoads") 0 hts (gW w_580) rfl rfl rfl (nz_nw hZ nw_577 rfl) (hts _ w_4) hd_X0_walkerBits ⟨Nat.le_of_ble_eq_true rfl, Nat.le_of_ble_eq_true rfl⟩, (hts _ w_579), (hts _ wp_23)⟩ (mV hK hZ hP hD [1] rfl rfl [] 1 0 rfl rfl) rfl rfl hl.1 rfl (lv_room (Nat.le_of_ble_eq_true rfl)) dX7_asNow_10 ⟨Nat.le_of_ble_eq_true rfl, Nat.le_of_ble_eq_true rfl⟩) (fun r1 u2 H locs hw3 hP hD hS => ?_)
  try dsimp only at hw3
  have hP : va_P G vwCl [(h0, oX7 z0 0 0 0 0 0 0), (h1, oX0 b1 0 0 0 0 0 0 0 0 0 0)] H := hP
  have hD : va_D A [(h0, oX7 z0 0 0 0 0 0 0), (h1, oX0 b1 0 0 0 0 0 0 0 0 0 0)] := hD
  obtain rfl : r1 = 0 := hw3
  refine va_put (D := G) (ci := 7) (v := .int 0) (ty := .int) (C := RX7) (T := TX7) (N := 6) hx hb hts iG_X7 tyX7 tyX7_ok nmX7 hown hK hP hD hS 0 rfl rfl 1 (by decide) (hts _ w_201) (fun _ h9 => h9) rfl (by decide +kernel) rfl rfl (Nat.le_of_ble_eq_true rfl) dX7_asNow_13 (fun H locs hP hD hS => ?_)
  have hP : va_P G vwCl [(h0, oX7 z0 0 0 0 0 0 0), (h1, oX0 b1 0 0 0 0 0 0 0 0 0 0)] H := hP
  have hD : va_D A [(h0, oX7 z0 0 0 0 0 0 0), (h1, oX0 b1 0 0 0 0 0 0 0 0 0 0)] := hD
  refine lv_aload_n hx hb dX7_asNow_16 rfl (lv_at hl 0 rfl) ?_
  refine lv_aload_n hx hb dX7_asNow_17 rfl (lv_at hl 1 rfl) ?_
  refine k_l (wc := [(h1, oX0 b1 0 0 0 0 0 0 0 0 0 0)]) (wr := [(h0, oX7 z0 0 0 0 0 0 0)]) hP hD hS hA [1] [0] rfl rfl rfl (by decide) (va_runVN (As := []) (rest := [.ref h0]) ⟨hx, hb, hml, hown, hts⟩ (f_X0_creekBits l G cI cJ cZ cB cQ _ h1 b1) ⟨va_cnB (host := "WidowRoads") 0 hts (gW w_516) rfl rfl rfl (nz_nw hZ nw_581 rfl) (hts _ w_4) hd_X0_creekBits ⟨Nat.le_of_ble_eq_true rfl, Nat.le_of_ble_eq_true rfl⟩, (hts _ w_515), (hts _ wp_12)⟩ (mV hK hZ hP hD [1] rfl rfl [] 1 0 rfl rfl) rfl rfl hl.1 rfl (lv_room (Nat.le_of_ble_eq_true rfl)) dX7_asNow_18 ⟨Nat.le_of_ble_eq_true rfl, Nat.le_of_ble_eq_true rfl⟩) (fun r4 u5 H locs hw6 hP hD hS => ?_)
  try dsimp only at hw6
  have hP : va_P G vwCl [(h0, oX7 z0 0 0 0 0 0 0), (h1, oX0 b1 0 0 0 0 0 0 0 0 0 0)] H := hP
  have hD : va_D A [(h0, oX7 z0 0 0 0 0 0 0), (h1, oX0 b1 0 0 0 0 0 0 0 0 0 0)] := hD
  obtain rfl : r4 = 0 := hw6
  refine va_put (D := G) (ci := 7) (v := .long 0) (ty := .long) (C := RX7) (T := TX7) (N := 6) hx hb hts iG_X7 tyX7 tyX7_ok nmX7 hown hK hP hD hS 0 rfl rfl 2 (by decide) (hts _ w_205) (fun _ h9 => h9) rfl (by decide +kernel) rfl rfl (Nat.le_of_ble_eq_true rfl) dX7_asNow_21 (fun H locs hP hD hS => ?_)
  have hP : va_P G vwCl [(h0, oX7 z0 0 0 0 0 0 0), (h1, oX0 b1 0 0 0 0 0 0 0 0 0 0)] H := hP
  have hD : va_D A [(h0, oX7 z0 0 0 0 0 0 0), (h1, oX0 b1 0 0 0 0 0 0 0 0 0 0)] := hD
  refine lv_aload_n hx hb dX7_asNow_24 rfl (lv_at hl 0 rfl) ?_
  refine lv_iconst (v := (-1)) hx hb dX7_asNow_25 (by decide) ?_
  refine va_put (D := G) (ci := 7) (v := .int (-1)) (ty := .int) (C := RX7) (T := TX7) (N := 6) hx hb hts iG_X7 tyX7 tyX7_ok nmX7 hown hK hP hD hS 0 rfl rfl 3 (by decide) (hts _ w_208) (fun _ h9 => h9) rfl (by decide +kernel) rfl rfl (Nat.le_of_ble_eq_true rfl) dX7_asNow_26 (fun H locs hP hD hS => ?_)
  have hP : va_P G vwCl [(h0, oX7 z0 0 0 0 (-1) 0 0), (h1, oX0 b1 0 0 0 0 0 0 0 0 0 0)] H := hP
  have hD : va_D A [(h0, oX7 z0 0 0 0 (-1) 0 0), (h1, oX0 b1 0 0 0 0 0 0 0 0 0 0)] := hD
  refine lv_aload_n hx hb dX7_asNow_29 rfl (lv_at hl 0 rfl) ?_
  refine lv_iconst (v := (-1)) hx hb dX7_asNow_30 (by decide) ?_
  refine va_put (D := G) (ci := 7) (v := .int (-1)) (ty := .int) (C := RX7) (T := TX7) (N := 6) hx hb hts iG_X7 tyX7 tyX7_ok nmX7 hown hK hP hD hS 0 rfl rfl 4 (by decide) (hts _ w_210) (fun _ h9 => h9) rfl (by decide +kernel) rfl rfl (Nat.le_of_ble_eq_true rfl) dX7_asNow_31 (fun H locs hP hD hS => ?_)
  have hP : va_P G vwCl [(h0, oX7 z0 0 0 0 (-1) (-1) 0), (h1, oX0 b1 0 0 0 0 0 0 0 0 0 0)] H := hP
  have hD : va_D A [(h0, oX7 z0 0 0 0 (-1) (-1) 0), (h1, oX0 b1 0 0 0 0 0 0 0 0 0 0)] := hD
  refine lv_aload_n hx hb dX7_asNow_34 rfl (lv_at hl 0 rfl) ?_
  refine lv_iconst (v := (-1)) hx hb dX7_asNow_35 (by decide) ?_
  refine va_put (D := G) (ci := 7) (v := .int (-1)) (ty := .int) (C := RX7) (T := TX7) (N := 6) hx hb hts iG_X7 tyX7 tyX7_ok nmX7 hown hK hP hD hS 0 rfl rfl 5 (by decide) (hts _ w_212) (fun _ h9 => h9) rfl (by decide +kernel) rfl rfl (Nat.le_of_ble_eq_true rfl) dX7_asNow_36 (fun H locs hP hD hS => ?_)
  have hP : va_P G vwCl [(h0, oX7 z0 0 0 0 (-1) (-1) (-1)), (h1, oX0 b1 0 0 0 0 0 0 0 0 0 0)] H := hP
  have hD : va_D A [(h0, oX7 z0 0 0 0 (-1) (-1) (-1)), (h1, oX0 b1 0 0 0 0 0 0 0 0 0 0)] := hD
  exact hret _ _ _ _ () hP hD hS dX7_asNow_39 trivial
set_option maxHeartbeats 4000000 in
set_option maxRecDepth 100000 in
theorem f_X6_begin (l : Launch) (G : va_G) (cI cJ cZ cB cQ : ClassId) (sz : Nat) (h0 : Nat) (b : Nat → Nat) (h1 : Nat) (b1 : Nat → Nat) : CV l yX6_begin (wl_ yX6_begin cX6_begin 3 none) ({ frames := 1, cells := 0, slots := 0, locals := 23 } : Room) G (TY cI cJ cZ cB cQ) [.ref h0, .ref h1] [(h0, oX6 b 0 0), (b 1, .inl (cI, 7, .inl (fun _ => 0))), (b 2, .inl (cI, 7, .inl (fun _ => 0))), (b 3, .inl (cJ, 7, .inr (.inl (fun _ => 0)))), (b 4, .inl (cI, 7, .inl (fun _ => 0))), (b 5, .inl (cI, 6, .inl (fun _ => 0))), (b 6, .inl (cI, 78, .inl (fun _ => 0))), (b 7, .inl (cJ, 13, .inr (.inl (fun _ => 0)))), (b 8, .inl (cJ, 13, .inr (.inl (fun _ => 0)))), (b 9, .inl (cJ, 13, .inr (.inl (fun _ => 0)))), (h1, oX0 b1 0 0 0 0 0 0 0 0 0 0)] sz (fun (u : (Nat → Int32) × (Nat → Int32)) => True) (fun u : (Nat → Int32) × (Nat → Int32) => [(h0, oX6 b 0 0), (b 1, .inl (cI, 7, .inl u.1)), (b 2, .inl (cI, 7, .inl (fun _ => 0))), (b 3, .inl (cJ, 7, .inr (.inl (fun _ => 0)))), (b 4, .inl (cI, 7, .inl (fun _ => 0))), (b 5, .inl (cI, 6, .inl (fun _ => 0))), (b 6, .inl (cI, 78, .inl u.2)), (b 7, .inl (cJ, 13, .inr (.inl (fun _ => 0)))), (b 8, .inl (cJ, 13, .inr (.inl (fun _ => 0)))), (b 9, .inl (cJ, 13, .inr (.inl (fun _ => 0)))), (h1, oX0 b1 0 0 0 0 0 0 0 0 0 0)]) 0 0 := by
  refine CV.go (cc := cX6_begin) (maxL := 3) (ret := none) (by decide) rfl (Nat.le_of_ble_eq_true rfl) ?_
  intro p e s m below meth c A ls Q hBd hret
  obtain ⟨hx, hb, hr, hml, hts, hown, hlk, hnm, hP, hK, hD, hA, hZ, hl⟩ := hBd
  have hown : s.vm.findClass RX6 = some m.cls := hown
  have hl : lv_has ls 3 [(0, .ref h0), (1, .ref h1)] := hl
  have hS : va_S A s.heap s.heap [] := va_S.rf
  refine lv_aload_n hx hb dX6_begin_0 rfl (lv_at hl 0 rfl) ?_
  refine lv_aload_n hx hb dX6_begin_1 rfl (lv_at hl 1 rfl) ?_
  refine k_l (wc := [(h1, oX0 b1 0 0 0 0 0 0 0 0 0 0)]) (wr := [(h0, oX6 b 0 0), (b 1, .inl (cI, 7, .inl (fun _ => 0))), (b 2, .inl (cI, 7, .inl (fun _ => 0))), (b 3, .inl (cJ, 7, .inr (.inl (fun _ => 0)))), (b 4, .inl (cI, 7, .inl (fun _ => 0))), (b 5, .inl (cI, 6, .inl (fun _ => 0))), (b 6, .inl (cI, 78, .inl (fun _ => 0))), (b 7, .inl (cJ, 13, .inr (.inl (fun _ => 0)))), (b 8, .inl (cJ, 13, .inr (.inl (fun _ => 0)))), (b 9, .inl (cJ, 13, .inr (.inl (fun _ => 0))))]) hP hD hS hA [10] [0, 1, 2, 3, 4, 5, 6, 7, 8, 9] rfl rfl rfl (by decide) (va_runVN (As := []) (rest := [.ref h0]) ⟨hx, hb, hml, hown, hts⟩ (f_X0_field l G cI cJ cZ cB cQ _ h1 b1) ⟨va_cnB (host := "WidowRoads") 0 hts (gW w_593) rfl rfl rfl (nz_nw hZ nw_590 rfl) (hts _ w_4) hd_X0_field ⟨Nat.le_of_ble_eq_true rfl, Nat.le_of_ble_eq_true rfl⟩, (hts _ w_592), (hts _ wp_26)⟩ (mV hK hZ hP hD [10] rfl rfl [] 10 0 rfl rfl) rfl rfl hl.1 rfl (lv_room (Nat.le_of_ble_eq_true rfl)) dX6_begin_2 ⟨Nat.le_of_ble_eq_true rfl, Nat.le_of_ble_eq_true rfl⟩) (fun r1 u2 H locs hw3 hP hD hS => ?_)
  try dsimp only at hw3
  have hP : va_P G vwCl [(h0, oX6 b 0 0), (b 1, .inl (cI, 7, .inl (fun _ => 0))), (b 2, .inl (cI, 7, .inl (fun _ => 0))), (b 3, .inl (cJ, 7, .inr (.inl (fun _ => 0)))), (b 4, .inl (cI, 7, .inl (fun _ => 0))), (b 5, .inl (cI, 6, .inl (fun _ => 0))), (b 6, .inl (cI, 78, .inl (fun _ => 0))), (b 7, .inl (cJ, 13, .inr (.inl (fun _ => 0)))), (b 8, .inl (cJ, 13, .inr (.inl (fun _ => 0)))), (b 9, .inl (cJ, 13, .inr (.inl (fun _ => 0)))), (h1, oX0 b1 0 0 0 0 0 0 0 0 0 0)] H := hP
  have hD : va_D A [(h0, oX6 b 0 0), (b 1, .inl (cI, 7, .inl (fun _ => 0))), (b 2, .inl (cI, 7, .inl (fun _ => 0))), (b 3, .inl (cJ, 7, .inr (.inl (fun _ => 0)))), (b 4, .inl (cI, 7, .inl (fun _ => 0))), (b 5, .inl (cI, 6, .inl (fun _ => 0))), (b 6, .inl (cI, 78, .inl (fun _ => 0))), (b 7, .inl (cJ, 13, .inr (.inl (fun _ => 0)))), (b 8, .inl (cJ, 13, .inr (.inl (fun _ => 0)))), (b 9, .inl (cJ, 13, .inr (.inl (fun _ => 0)))), (h1, oX0 b1 0 0 0 0 0 0 0 0 0 0)] := hD
  obtain rfl : r1 = 0 := hw3
  refine va_put (D := G) (ci := 6) (v := .long 0) (ty := .long) (C := RX6) (T := TX6) (N := 12) hx hb hts iG_X6 tyX6 tyX6_ok nmX6 hown hK hP hD hS 0 rfl rfl 10 (by decide) (hts _ w_254) (fun _ h9 => h9) rfl (by decide +kernel) rfl rfl (Nat.le_of_ble_eq_true rfl) dX6_begin_5 (fun H locs hP hD hS => ?_)
  have hP : va_P G vwCl [(h0, oX6 b 0 0), (b 1, .inl (cI, 7, .inl (fun _ => 0))), (b 2, .inl (cI, 7, .inl (fun _ => 0))), (b 3, .inl (cJ, 7, .inr (.inl (fun _ => 0)))), (b 4, .inl (cI, 7, .inl (fun _ => 0))), (b 5, .inl (cI, 6, .inl (fun _ => 0))), (b 6, .inl (cI, 78, .inl (fun _ => 0))), (b 7, .inl (cJ, 13, .inr (.inl (fun _ => 0)))), (b 8, .inl (cJ, 13, .inr (.inl (fun _ => 0)))), (b 9, .inl (cJ, 13, .inr (.inl (fun _ => 0)))), (h1, oX0 b1 0 0 0 0 0 0 0 0 0 0)] H := hP
  have hD : va_D A [(h0, oX6 b 0 0), (b 1, .inl (cI, 7, .inl (fun _ => 0))), (b 2, .inl (cI, 7, .inl (fun _ => 0))), (b 3, .inl (cJ, 7, .inr (.inl (fun _ => 0)))), (b 4, .inl (cI, 7, .inl (fun _ => 0))), (b 5, .inl (cI, 6, .inl (fun _ => 0))), (b 6, .inl (cI, 78, .inl (fun _ => 0))), (b 7, .inl (cJ, 13, .inr (.inl (fun _ => 0)))), (b 8, .inl (cJ, 13, .inr (.inl (fun _ => 0)))), (b 9, .inl (cJ, 13, .inr (.inl (fun _ => 0)))), (h1, oX0 b1 0 0 0 0 0 0 0 0 0 0)] := hD
  refine lv_aload_n hx hb dX6_begin_8 rfl (lv_at hl 0 rfl) ?_
  refine lv_aload_n hx hb dX6_begin_9 rfl (lv_at hl 1 rfl) ?_
  refine va_getN (D := G) (ci := 0) (v := .int 0) (C := RX0) (T := TX0) (N := 19) hx hb hts iG_X0 hown hK hP 10 rfl rfl 7 (by decide) (nz_use hZ nw_81 rfl) (fun _ h9 => h9) rfl dX6_begin_10 ?_
  refine va_put (D := G) (ci := 6) (v := .int 0) (ty := .int) (C := RX6) (T := TX6) (N := 12) hx hb hts iG_X6 tyX6 tyX6_ok nmX6 hown hK hP hD hS 0 rfl rfl 11 (by decide) (hts _ w_255) (fun _ h9 => h9) rfl (by decide +kernel) rfl rfl (Nat.le_of_ble_eq_true rfl) dX6_begin_13 (fun H locs hP hD hS => ?_)
  have hP : va_P G vwCl [(h0, oX6 b 0 0), (b 1, .inl (cI, 7, .inl (fun _ => 0))), (b 2, .inl (cI, 7, .inl (fun _ => 0))), (b 3, .inl (cJ, 7, .inr (.inl (fun _ => 0)))), (b 4, .inl (cI, 7, .inl (fun _ => 0))), (b 5, .inl (cI, 6, .inl (fun _ => 0))), (b 6, .inl (cI, 78, .inl (fun _ => 0))), (b 7, .inl (cJ, 13, .inr (.inl (fun _ => 0)))), (b 8, .inl (cJ, 13, .inr (.inl (fun _ => 0)))), (b 9, .inl (cJ, 13, .inr (.inl (fun _ => 0)))), (h1, oX0 b1 0 0 0 0 0 0 0 0 0 0)] H := hP
  have hD : va_D A [(h0, oX6 b 0 0), (b 1, .inl (cI, 7, .inl (fun _ => 0))), (b 2, .inl (cI, 7, .inl (fun _ => 0))), (b 3, .inl (cJ, 7, .inr (.inl (fun _ => 0)))), (b 4, .inl (cI, 7, .inl (fun _ => 0))), (b 5, .inl (cI, 6, .inl (fun _ => 0))), (b 6, .inl (cI, 78, .inl (fun _ => 0))), (b 7, .inl (cJ, 13, .inr (.inl (fun _ => 0)))), (b 8, .inl (cJ, 13, .inr (.inl (fun _ => 0)))), (b 9, .inl (cJ, 13, .inr (.inl (fun _ => 0)))), (h1, oX0 b1 0 0 0 0 0 0 0 0 0 0)] := hD
  refine lv_aload_n hx hb dX6_begin_16 rfl (lv_at hl 0 rfl) ?_
  refine va_get (D := G) (ci := 6) (v := .ref (b 7)) (C := RX6) (T := TX6) (N := 12) hx hb hts iG_X6 hown hK hP 0 rfl rfl 7 (by decide) (hts _ w_246) (fun _ h9 => h9) rfl dX6_begin_17 ?_
  refine lv_iconst (v := 0) hx hb dX6_begin_20 (by decide) ?_
  refine lv_lconst (v := 0) hx hb dX6_begin_21 (by decide) ?_
  refine va_last hx hb hK hP hD hS 7 1 rfl rfl (ix_in ki_0 (by omega) (by omega)) dX6_begin_22 (fun H locs hP hD hS => ?_)
  rw [updL_z] at hP hD
  have hP : va_P G vwCl [(h0, oX6 b 0 0), (b 1, .inl (cI, 7, .inl (fun _ => 0))), (b 2, .inl (cI, 7, .inl (fun _ => 0))), (b 3, .inl (cJ, 7, .inr (.inl (fun _ => 0)))), (b 4, .inl (cI, 7, .inl (fun _ => 0))), (b 5, .inl (cI, 6, .inl (fun _ => 0))), (b 6, .inl (cI, 78, .inl (fun _ => 0))), (b 7, .inl (cJ, 13, .inr (.inl (fun _ => 0)))), (b 8, .inl (cJ, 13, .inr (.inl (fun _ => 0)))), (b 9, .inl (cJ, 13, .inr (.inl (fun _ => 0)))), (h1, oX0 b1 0 0 0 0 0 0 0 0 0 0)] H := hP
  have hD : va_D A [(h0, oX6 b 0 0), (b 1, .inl (cI, 7, .inl (fun _ => 0))), (b 2, .inl (cI, 7, .inl (fun _ => 0))), (b 3, .inl (cJ, 7, .inr (.inl (fun _ => 0)))), (b 4, .inl (cI, 7, .inl (fun _ => 0))), (b 5, .inl (cI, 6, .inl (fun _ => 0))), (b 6, .inl (cI, 78, .inl (fun _ => 0))), (b 7, .inl (cJ, 13, .inr (.inl (fun _ => 0)))), (b 8, .inl (cJ, 13, .inr (.inl (fun _ => 0)))), (b 9, .inl (cJ, 13, .inr (.inl (fun _ => 0)))), (h1, oX0 b1 0 0 0 0 0 0 0 0 0 0)] := hD
  refine lv_aload_n hx hb dX6_begin_23 rfl (lv_at hl 0 rfl) ?_
  refine va_get (D := G) (ci := 6) (v := .ref (b 8)) (C := RX6) (T := TX6) (N := 12) hx hb hts iG_X6 hown hK hP 0 rfl rfl 8 (by decide) (hts _ w_250) (fun _ h9 => h9) rfl dX6_begin_24 ?_
  refine lv_iconst (v := 0) hx hb dX6_begin_27 (by decide) ?_
  refine lv_lconst (v := 0) hx hb dX6_begin_28 (by decide) ?_
  refine va_last hx hb hK hP hD hS 8 1 rfl rfl (ix_in ki_0 (by omega) (by omega)) dX6_begin_29 (fun H locs hP hD hS => ?_)
  rw [updL_z] at hP hD
  have hP : va_P G vwCl [(h0, oX6 b 0 0), (b 1, .inl (cI, 7, .inl (fun _ => 0))), (b 2, .inl (cI, 7, .inl (fun _ => 0))), (b 3, .inl (cJ, 7, .inr (.inl (fun _ => 0)))), (b 4, .inl (cI, 7, .inl (fun _ => 0))), (b 5, .inl (cI, 6, .inl (fun _ => 0))), (b 6, .inl (cI, 78, .inl (fun _ => 0))), (b 7, .inl (cJ, 13, .inr (.inl (fun _ => 0)))), (b 8, .inl (cJ, 13, .inr (.inl (fun _ => 0)))), (b 9, .inl (cJ, 13, .inr (.inl (fun _ => 0)))), (h1, oX0 b1 0 0 0 0 0 0 0 0 0 0)] H := hP
  have hD : va_D A [(h0, oX6 b 0 0), (b 1, .inl (cI, 7, .inl (fun _ => 0))), (b 2, .inl (cI, 7, .inl (fun _ => 0))), (b 3, .inl (cJ, 7, .inr (.inl (fun _ => 0)))), (b 4, .inl (cI, 7, .inl (fun _ => 0))), (b 5, .inl (cI, 6, .inl (fun _ => 0))), (b 6, .inl (cI, 78, .inl (fun _ => 0))), (b 7, .inl (cJ, 13, .inr (.inl (fun _ => 0)))), (b 8, .inl (cJ, 13, .inr (.inl (fun _ => 0)))), (b 9, .inl (cJ, 13, .inr (.inl (fun _ => 0)))), (h1, oX0 b1 0 0 0 0 0 0 0 0 0 0)] := hD
  refine lv_aload_n hx hb dX6_begin_30 rfl (lv_at hl 0 rfl) ?_
  refine va_get (D := G) (ci := 6) (v := .ref (b 9)) (C := RX6) (T := TX6) (N := 12) hx hb hts iG_X6 hown hK hP 0 rfl rfl 9 (by decide) (hts _ w_252) (fun _ h9 => h9) rfl dX6_begin_31 ?_
  refine lv_iconst (v := 0) hx hb dX6_begin_34 (by decide) ?_
  refine lv_lconst (v := 0) hx hb dX6_begin_35 (by decide) ?_
  refine va_last hx hb hK hP hD hS 9 1 rfl rfl (ix_in ki_0 (by omega) (by omega)) dX6_begin_36 (fun H locs hP hD hS => ?_)
  rw [updL_z] at hP hD
  have hP : va_P G vwCl [(h0, oX6 b 0 0), (b 1, .inl (cI, 7, .inl (fun _ => 0))), (b 2, .inl (cI, 7, .inl (fun _ => 0))), (b 3, .inl (cJ, 7, .inr (.inl (fun _ => 0)))), (b 4, .inl (cI, 7, .inl (fun _ => 0))), (b 5, .inl (cI, 6, .inl (fun _ => 0))), (b 6, .inl (cI, 78, .inl (fun _ => 0))), (b 7, .inl (cJ, 13, .inr (.inl (fun _ => 0)))), (b 8, .inl (cJ, 13, .inr (.inl (fun _ => 0)))), (b 9, .inl (cJ, 13, .inr (.inl (fun _ => 0)))), (h1, oX0 b1 0 0 0 0 0 0 0 0 0 0)] H := hP
  have hD : va_D A [(h0, oX6 b 0 0), (b 1, .inl (cI, 7, .inl (fun _ => 0))), (b 2, .inl (cI, 7, .inl (fun _ => 0))), (b 3, .inl (cJ, 7, .inr (.inl (fun _ => 0)))), (b 4, .inl (cI, 7, .inl (fun _ => 0))), (b 5, .inl (cI, 6, .inl (fun _ => 0))), (b 6, .inl (cI, 78, .inl (fun _ => 0))), (b 7, .inl (cJ, 13, .inr (.inl (fun _ => 0)))), (b 8, .inl (cJ, 13, .inr (.inl (fun _ => 0)))), (b 9, .inl (cJ, 13, .inr (.inl (fun _ => 0)))), (h1, oX0 b1 0 0 0 0 0 0 0 0 0 0)] := hD
  refine lv_iconst (v := 0) hx hb dX6_begin_37 (by decide) ?_
  refine lv_istore_n (lv' := [(2, .int 0), (0, .ref h0), (1, .ref h1)]) hx hb dX6_begin_38 rfl hl (by decide) rfl (fun ls hl => ?_)
  have lp4 : ∀ (n5 : Nat) (x6 : Int32) (f7 : Nat → Int32), 0 ≤ x6.toInt → x6.toInt ≤ 7 → 7 - x6.toInt < (n5 : Int) → ∀ (H : Heap) (locs : List Loc), va_P G vwCl [(h0, oX6 b 0 0), (b 1, .inl (cI, 7, .inl f7)), (b 2, .inl (cI, 7, .inl (fun _ => 0))), (b 3, .inl (cJ, 7, .inr (.inl (fun _ => 0)))), (b 4, .inl (cI, 7, .inl (fun _ => 0))), (b 5, .inl (cI, 6, .inl (fun _ => 0))), (b 6, .inl (cI, 78, .inl (fun _ => 0))), (b 7, .inl (cJ, 13, .inr (.inl (fun _ => 0)))), (b 8, .inl (cJ, 13, .inr (.inl (fun _ => 0)))), (b 9, .inl (cJ, 13, .inr (.inl (fun _ => 0)))), (h1, oX0 b1 0 0 0 0 0 0 0 0 0 0)] H → va_D A [(h0, oX6 b 0 0), (b 1, .inl (cI, 7, .inl f7)), (b 2, .inl (cI, 7, .inl (fun _ => 0))), (b 3, .inl (cJ, 7, .inr (.inl (fun _ => 0)))), (b 4, .inl (cI, 7, .inl (fun _ => 0))), (b 5, .inl (cI, 6, .inl (fun _ => 0))), (b 6, .inl (cI, 78, .inl (fun _ => 0))), (b 7, .inl (cJ, 13, .inr (.inl (fun _ => 0)))), (b 8, .inl (cJ, 13, .inr (.inl (fun _ => 0)))), (b 9, .inl (cJ, 13, .inr (.inl (fun _ => 0)))), (h1, oX0 b1 0 0 0 0 0 0 0 0 0 0)] → va_S A s.heap H locs → ∀ (ls : Array Slot), lv_has ls 3 [(2, .int x6), (0, .ref h0), (1, .ref h1)] → W p l e ({ frames := 1, cells := 0, slots := 0, locals := 23 } : Room) s m ([.ref h0, .ref h1] : List Value).toArray below meth c H locs 0 0 Q (F0 m 39 ls []) := by
    intro n5
    induction n5 with
    | zero =>
      intro x6 f7 f7_0 f7_1 f7_2
      exact absurd f7_2 (by omega)
    | succ n5 ih8 =>
      intro x6 f7 f7_0 f7_1 f7_2 H locs hP hD hS ls hl
      refine lv_iload_n hx hb dX6_begin_39 rfl (lv_at hl 0 rfl) ?_
      refine lv_bipush (v := 7) hx hb dX6_begin_40 (by decide) ?_
      refine lv_icmp_ge (tgt := 79) hx hb dX6_begin_42 (by decide) (fun c9 => ?_) (fun c9 => ?_)
      · have c9 := i_le ki_7 rfl c9
        refine lv_iconst (v := 0) hx hb dX6_begin_79 (by decide) ?_
        refine lv_istore_n (lv' := [(2, .int 0), (0, .ref h0), (1, .ref h1)]) hx hb dX6_begin_80 rfl hl (by decide) rfl (fun ls hl => ?_)
        have lp10 : ∀ (n11 : Nat) (x12 : Int32) (f13 : Nat → Int32), 0 ≤ x12.toInt → x12.toInt ≤ 6 → 6 - x12.toInt < (n11 : Int) → ∀ (H : Heap) (locs : List Loc), va_P G vwCl [(h0, oX6 b 0 0), (b 1, .inl (cI, 7, .inl f7)), (b 2, .inl (cI, 7, .inl (fun _ => 0))), (b 3, .inl (cJ, 7, .inr (.inl (fun _ => 0)))), (b 4, .inl (cI, 7, .inl (fun _ => 0))), (b 5, .inl (cI, 6, .inl (fun _ => 0))), (b 6, .inl (cI, 78, .inl f13)), (b 7, .inl (cJ, 13, .inr (.inl (fun _ => 0)))), (b 8, .inl (cJ, 13, .inr (.inl (fun _ => 0)))), (b 9, .inl (cJ, 13, .inr (.inl (fun _ => 0)))), (h1, oX0 b1 0 0 0 0 0 0 0 0 0 0)] H → va_D A [(h0, oX6 b 0 0), (b 1, .inl (cI, 7, .inl f7)), (b 2, .inl (cI, 7, .inl (fun _ => 0))), (b 3, .inl (cJ, 7, .inr (.inl (fun _ => 0)))), (b 4, .inl (cI, 7, .inl (fun _ => 0))), (b 5, .inl (cI, 6, .inl (fun _ => 0))), (b 6, .inl (cI, 78, .inl f13)), (b 7, .inl (cJ, 13, .inr (.inl (fun _ => 0)))), (b 8, .inl (cJ, 13, .inr (.inl (fun _ => 0)))), (b 9, .inl (cJ, 13, .inr (.inl (fun _ => 0)))), (h1, oX0 b1 0 0 0 0 0 0 0 0 0 0)] → va_S A s.heap H locs → ∀ (ls : Array Slot), lv_has ls 3 [(2, .int x12), (0, .ref h0), (1, .ref h1)] → W p l e ({ frames := 1, cells := 0, slots := 0, locals := 23 } : Room) s m ([.ref h0, .ref h1] : List Value).toArray below meth c H locs 0 0 Q (F0 m 81 ls []) := by
          intro n11
          induction n11 with
          | zero =>
            intro x12 f13 f13_0 f13_1 f13_2
            exact absurd f13_2 (by omega)
          | succ n11 ih14 =>
            intro x12 f13 f13_0 f13_1 f13_2 H locs hP hD hS ls hl
            refine lv_iload_n hx hb dX6_begin_81 rfl (lv_at hl 0 rfl) ?_
            refine lv_bipush (v := 6) hx hb dX6_begin_82 (by decide) ?_
            refine lv_icmp_ge (tgt := 124) hx hb dX6_begin_84 (by decide) (fun c15 => ?_) (fun c15 => ?_)
            · have c15 := i_le ki_6 rfl c15
              exact hret _ _ _ _ (f7, f13) hP hD hS dX6_begin_124 trivial
            · have c15 := i_nle ki_6 rfl c15
              refine lv_aload_n hx hb dX6_begin_87 rfl (lv_at hl 1 rfl) ?_
              refine va_get (D := G) (ci := 6) (v := .ref (b 6)) (C := RX6) (T := TX6) (N := 12) hx hb hts iG_X6 hown hK hP 0 rfl rfl 6 (by decide) (hts _ w_244) (fun _ h9 => h9) rfl dX6_begin_88 ?_
              refine lv_iload_n hx hb dX6_begin_91 rfl (lv_at hl 0 rfl) ?_
              refine lv_iload_n hx hb dX6_begin_92 rfl (lv_at hl 0 rfl) ?_
              refine lv_aload_n hx hb dX6_begin_93 rfl (lv_at hl 1 rfl) ?_
              refine va_get (D := G) (ci := 6) (v := .int 0) (C := RX6) (T := TX6) (N := 12) hx hb hts iG_X6 hown hK hP 0 rfl rfl 11 (by decide) (hts _ w_255) (fun _ h9 => h9) rfl dX6_begin_94 ?_
              refine lv_icmp_ge (tgt := 109) hx hb dX6_begin_97 (by decide) (fun c16 => ?_) (fun c16 => absurd (i_nle ki_0 rfl c16) (by omega))
              have c16 := i_le ki_0 rfl c16
              refine lv_iconst (v := (-1)) hx hb dX6_begin_109 (by decide) ?_
              refine va_iast hx hb hK hP hD hS 6 0 rfl rfl (ix_in rfl (by omega) (by omega)) dX6_begin_110 (fun H locs hP hD hS => ?_)
              generalize upd f13 x12.toNatClampNeg (-1) = f17 at hP hD
              have hP : va_P G vwCl [(h0, oX6 b 0 0), (b 1, .inl (cI, 7, .inl f7)), (b 2, .inl (cI, 7, .inl (fun _ => 0))), (b 3, .inl (cJ, 7, .inr (.inl (fun _ => 0)))), (b 4, .inl (cI, 7, .inl (fun _ => 0))), (b 5, .inl (cI, 6, .inl (fun _ => 0))), (b 6, .inl (cI, 78, .inl f17)), (b 7, .inl (cJ, 13, .inr (.inl (fun _ => 0)))), (b 8, .inl (cJ, 13, .inr (.inl (fun _ => 0)))), (b 9, .inl (cJ, 13, .inr (.inl (fun _ => 0)))), (h1, oX0 b1 0 0 0 0 0 0 0 0 0 0)] H := hP
              have hD : va_D A [(h0, oX6 b 0 0), (b 1, .inl (cI, 7, .inl f7)), (b 2, .inl (cI, 7, .inl (fun _ => 0))), (b 3, .inl (cJ, 7, .inr (.inl (fun _ => 0)))), (b 4, .inl (cI, 7, .inl (fun _ => 0))), (b 5, .inl (cI, 6, .inl (fun _ => 0))), (b 6, .inl (cI, 78, .inl f17)), (b 7, .inl (cJ, 13, .inr (.inl (fun _ => 0)))), (b 8, .inl (cJ, 13, .inr (.inl (fun _ => 0)))), (b 9, .inl (cJ, 13, .inr (.inl (fun _ => 0)))), (h1, oX0 b1 0 0 0 0 0 0 0 0 0 0)] := hD
              refine lv_aload_n hx hb dX6_begin_111 rfl (lv_at hl 1 rfl) ?_
              refine va_get (D := G) (ci := 6) (v := .ref (b 5)) (C := RX6) (T := TX6) (N := 12) hx hb hts iG_X6 hown hK hP 0 rfl rfl 5 (by decide) (hts _ w_242) (fun _ h9 => h9) rfl dX6_begin_112 ?_
              refine lv_iload_n hx hb dX6_begin_115 rfl (lv_at hl 0 rfl) ?_
              refine lv_iconst (v := 0) hx hb dX6_begin_116 (by decide) ?_
              refine va_iast hx hb hK hP hD hS 5 0 rfl rfl (ix_in rfl (by omega) (by omega)) dX6_begin_117 (fun H locs hP hD hS => ?_)
              rw [upd_z] at hP hD
              have hP : va_P G vwCl [(h0, oX6 b 0 0), (b 1, .inl (cI, 7, .inl f7)), (b 2, .inl (cI, 7, .inl (fun _ => 0))), (b 3, .inl (cJ, 7, .inr (.inl (fun _ => 0)))), (b 4, .inl (cI, 7, .inl (fun _ => 0))), (b 5, .inl (cI, 6, .inl (fun _ => 0))), (b 6, .inl (cI, 78, .inl f17)), (b 7, .inl (cJ, 13, .inr (.inl (fun _ => 0)))), (b 8, .inl (cJ, 13, .inr (.inl (fun _ => 0)))), (b 9, .inl (cJ, 13, .inr (.inl (fun _ => 0)))), (h1, oX0 b1 0 0 0 0 0 0 0 0 0 0)] H := hP
              have hD : va_D A [(h0, oX6 b 0 0), (b 1, .inl (cI, 7, .inl f7)), (b 2, .inl (cI, 7, .inl (fun _ => 0))), (b 3, .inl (cJ, 7, .inr (.inl (fun _ => 0)))), (b 4, .inl (cI, 7, .inl (fun _ => 0))), (b 5, .inl (cI, 6, .inl (fun _ => 0))), (b 6, .inl (cI, 78, .inl f17)), (b 7, .inl (cJ, 13, .inr (.inl (fun _ => 0)))), (b 8, .inl (cJ, 13, .inr (.inl (fun _ => 0)))), (b 9, .inl (cJ, 13, .inr (.inl (fun _ => 0)))), (h1, oX0 b1 0 0 0 0 0 0 0 0 0 0)] := hD
              obtain ⟨v18, ev18⟩ : ∃ y : Int32, y = x12 + 1 := ⟨_, rfl⟩
              have tv18 : v18.toInt = x12.toInt + 1 := ti_add rfl ki_1 ev18 (by omega) (by omega)
              refine lv_iinc (v := v18) (lv' := [(2, .int v18), (0, .ref h0), (1, .ref h1)]) hx hb dX6_begin_118 hl (k := 0) rfl (by rw [ev18]; rfl) (by decide) rfl (fun ls hl => ?_)
              refine lv_goto (tgt := 81) hx hb dX6_begin_121 (by decide) ?_
              exact ih14 v18 f17 (by omega) (by omega) (by omega) _ _ hP hD hS ls (lv_sub hl [0, 1, 2] rfl)
        exact lp10 7 0 (fun _ => 0) (by rw [ki_0]; decide) (by rw [ki_0]; decide) (by rw [ki_0]; decide) _ _ hP hD hS ls (lv_sub hl [0, 1, 2] rfl)
      · have c9 := i_nle ki_7 rfl c9
        refine lv_aload_n hx hb dX6_begin_45 rfl (lv_at hl 1 rfl) ?_
        refine va_get (D := G) (ci := 6) (v := .ref (b 1)) (C := RX6) (T := TX6) (N := 12) hx hb hts iG_X6 hown hK hP 0 rfl rfl 1 (by decide) (hts _ w_234) (fun _ h9 => h9) rfl dX6_begin_46 ?_
        refine lv_iload_n hx hb dX6_begin_49 rfl (lv_at hl 0 rfl) ?_
        refine lv_iconst (v := (-1)) hx hb dX6_begin_50 (by decide) ?_
        refine va_iast hx hb hK hP hD hS 1 0 rfl rfl (ix_in rfl (by omega) (by omega)) dX6_begin_51 (fun H locs hP hD hS => ?_)
        generalize upd f7 x6.toNatClampNeg (-1) = f19 at hP hD
        have hP : va_P G vwCl [(h0, oX6 b 0 0), (b 1, .inl (cI, 7, .inl f19)), (b 2, .inl (cI, 7, .inl (fun _ => 0))), (b 3, .inl (cJ, 7, .inr (.inl (fun _ => 0)))), (b 4, .inl (cI, 7, .inl (fun _ => 0))), (b 5, .inl (cI, 6, .inl (fun _ => 0))), (b 6, .inl (cI, 78, .inl (fun _ => 0))), (b 7, .inl (cJ, 13, .inr (.inl (fun _ => 0)))), (b 8, .inl (cJ, 13, .inr (.inl (fun _ => 0)))), (b 9, .inl (cJ, 13, .inr (.inl (fun _ => 0)))), (h1, oX0 b1 0 0 0 0 0 0 0 0 0 0)] H := hP
        have hD : va_D A [(h0, oX6 b 0 0), (b 1, .inl (cI, 7, .inl f19)), (b 2, .inl (cI, 7, .inl (fun _ => 0))), (b 3, .inl (cJ, 7, .inr (.inl (fun _ => 0)))), (b 4, .inl (cI, 7, .inl (fun _ => 0))), (b 5, .inl (cI, 6, .inl (fun _ => 0))), (b 6, .inl (cI, 78, .inl (fun _ => 0))), (b 7, .inl (cJ, 13, .inr (.inl (fun _ => 0)))), (b 8, .inl (cJ, 13, .inr (.inl (fun _ => 0)))), (b 9, .inl (cJ, 13, .inr (.inl (fun _ => 0)))), (h1, oX0 b1 0 0 0 0 0 0 0 0 0 0)] := hD
        refine lv_aload_n hx hb dX6_begin_52 rfl (lv_at hl 1 rfl) ?_
        refine va_get (D := G) (ci := 6) (v := .ref (b 2)) (C := RX6) (T := TX6) (N := 12) hx hb hts iG_X6 hown hK hP 0 rfl rfl 2 (by decide) (hts _ w_236) (fun _ h9 => h9) rfl dX6_begin_53 ?_
        refine lv_iload_n hx hb dX6_begin_56 rfl (lv_at hl 0 rfl) ?_
        refine lv_iconst (v := 0) hx hb dX6_begin_57 (by decide) ?_
        refine va_iast hx hb hK hP hD hS 2 0 rfl rfl (ix_in rfl (by omega) (by omega)) dX6_begin_58 (fun H locs hP hD hS => ?_)
        rw [upd_z] at hP hD
        have hP : va_P G vwCl [(h0, oX6 b 0 0), (b 1, .inl (cI, 7, .inl f19)), (b 2, .inl (cI, 7, .inl (fun _ => 0))), (b 3, .inl (cJ, 7, .inr (.inl (fun _ => 0)))), (b 4, .inl (cI, 7, .inl (fun _ => 0))), (b 5, .inl (cI, 6, .inl (fun _ => 0))), (b 6, .inl (cI, 78, .inl (fun _ => 0))), (b 7, .inl (cJ, 13, .inr (.inl (fun _ => 0)))), (b 8, .inl (cJ, 13, .inr (.inl (fun _ => 0)))), (b 9, .inl (cJ, 13, .inr (.inl (fun _ => 0)))), (h1, oX0 b1 0 0 0 0 0 0 0 0 0 0)] H := hP
        have hD : va_D A [(h0, oX6 b 0 0), (b 1, .inl (cI, 7, .inl f19)), (b 2, .inl (cI, 7, .inl (fun _ => 0))), (b 3, .inl (cJ, 7, .inr (.inl (fun _ => 0)))), (b 4, .inl (cI, 7, .inl (fun _ => 0))), (b 5, .inl (cI, 6, .inl (fun _ => 0))), (b 6, .inl (cI, 78, .inl (fun _ => 0))), (b 7, .inl (cJ, 13, .inr (.inl (fun _ => 0)))), (b 8, .inl (cJ, 13, .inr (.inl (fun _ => 0)))), (b 9, .inl (cJ, 13, .inr (.inl (fun _ => 0)))), (h1, oX0 b1 0 0 0 0 0 0 0 0 0 0)] := hD
        refine lv_aload_n hx hb dX6_begin_59 rfl (lv_at hl 1 rfl) ?_
        refine va_get (D := G) (ci := 6) (v := .ref (b 3)) (C := RX6) (T := TX6) (N := 12) hx hb hts iG_X6 hown hK hP 0 rfl rfl 3 (by decide) (hts _ w_238) (fun _ h9 => h9) rfl dX6_begin_60 ?_
        refine lv_iload_n hx hb dX6_begin_63 rfl (lv_at hl 0 rfl) ?_
        refine lv_lconst (v := 0) hx hb dX6_begin_64 (by decide) ?_
        refine va_last hx hb hK hP hD hS 3 1 rfl rfl (ix_in rfl (by omega) (by omega)) dX6_begin_65 (fun H locs hP hD hS => ?_)
        rw [updL_z] at hP hD
        have hP : va_P G vwCl [(h0, oX6 b 0 0), (b 1, .inl (cI, 7, .inl f19)), (b 2, .inl (cI, 7, .inl (fun _ => 0))), (b 3, .inl (cJ, 7, .inr (.inl (fun _ => 0)))), (b 4, .inl (cI, 7, .inl (fun _ => 0))), (b 5, .inl (cI, 6, .inl (fun _ => 0))), (b 6, .inl (cI, 78, .inl (fun _ => 0))), (b 7, .inl (cJ, 13, .inr (.inl (fun _ => 0)))), (b 8, .inl (cJ, 13, .inr (.inl (fun _ => 0)))), (b 9, .inl (cJ, 13, .inr (.inl (fun _ => 0)))), (h1, oX0 b1 0 0 0 0 0 0 0 0 0 0)] H := hP
        have hD : va_D A [(h0, oX6 b 0 0), (b 1, .inl (cI, 7, .inl f19)), (b 2, .inl (cI, 7, .inl (fun _ => 0))), (b 3, .inl (cJ, 7, .inr (.inl (fun _ => 0)))), (b 4, .inl (cI, 7, .inl (fun _ => 0))), (b 5, .inl (cI, 6, .inl (fun _ => 0))), (b 6, .inl (cI, 78, .inl (fun _ => 0))), (b 7, .inl (cJ, 13, .inr (.inl (fun _ => 0)))), (b 8, .inl (cJ, 13, .inr (.inl (fun _ => 0)))), (b 9, .inl (cJ, 13, .inr (.inl (fun _ => 0)))), (h1, oX0 b1 0 0 0 0 0 0 0 0 0 0)] := hD
        refine lv_aload_n hx hb dX6_begin_66 rfl (lv_at hl 1 rfl) ?_
        refine va_get (D := G) (ci := 6) (v := .ref (b 4)) (C := RX6) (T := TX6) (N := 12) hx hb hts iG_X6 hown hK hP 0 rfl rfl 4 (by decide) (hts _ w_240) (fun _ h9 => h9) rfl dX6_begin_67 ?_
        refine lv_iload_n hx hb dX6_begin_70 rfl (lv_at hl 0 rfl) ?_
        refine lv_iconst (v := 0) hx hb dX6_begin_71 (by decide) ?_
        refine va_iast hx hb hK hP hD hS 4 0 rfl rfl (ix_in rfl (by omega) (by omega)) dX6_begin_72 (fun H locs hP hD hS => ?_)
        rw [upd_z] at hP hD
        have hP : va_P G vwCl [(h0, oX6 b 0 0), (b 1, .inl (cI, 7, .inl f19)), (b 2, .inl (cI, 7, .inl (fun _ => 0))), (b 3, .inl (cJ, 7, .inr (.inl (fun _ => 0)))), (b 4, .inl (cI, 7, .inl (fun _ => 0))), (b 5, .inl (cI, 6, .inl (fun _ => 0))), (b 6, .inl (cI, 78, .inl (fun _ => 0))), (b 7, .inl (cJ, 13, .inr (.inl (fun _ => 0)))), (b 8, .inl (cJ, 13, .inr (.inl (fun _ => 0)))), (b 9, .inl (cJ, 13, .inr (.inl (fun _ => 0)))), (h1, oX0 b1 0 0 0 0 0 0 0 0 0 0)] H := hP
        have hD : va_D A [(h0, oX6 b 0 0), (b 1, .inl (cI, 7, .inl f19)), (b 2, .inl (cI, 7, .inl (fun _ => 0))), (b 3, .inl (cJ, 7, .inr (.inl (fun _ => 0)))), (b 4, .inl (cI, 7, .inl (fun _ => 0))), (b 5, .inl (cI, 6, .inl (fun _ => 0))), (b 6, .inl (cI, 78, .inl (fun _ => 0))), (b 7, .inl (cJ, 13, .inr (.inl (fun _ => 0)))), (b 8, .inl (cJ, 13, .inr (.inl (fun _ => 0)))), (b 9, .inl (cJ, 13, .inr (.inl (fun _ => 0)))), (h1, oX0 b1 0 0 0 0 0 0 0 0 0 0)] := hD
        obtain ⟨v20, ev20⟩ : ∃ y : Int32, y = x6 + 1 := ⟨_, rfl⟩
        have tv20 : v20.toInt = x6.toInt + 1 := ti_add rfl ki_1 ev20 (by omega) (by omega)
        refine lv_iinc (v := v20) (lv' := [(2, .int v20), (0, .ref h0), (1, .ref h1)]) hx hb dX6_begin_73 hl (k := 0) rfl (by rw [ev20]; rfl) (by decide) rfl (fun ls hl => ?_)
        refine lv_goto (tgt := 39) hx hb dX6_begin_76 (by decide) ?_
        exact ih8 v20 f19 (by omega) (by omega) (by omega) _ _ hP hD hS ls (lv_sub hl [0, 1, 2] rfl)
  exact lp4 8 0 (fun _ => 0) (by rw [ki_0]; decide) (by rw [ki_0]; decide) (by rw [ki_0]; decide) _ _ hP hD hS ls (lv_sub hl [0, 1, 2] rfl)
set_option maxHeartbeats 4000000 in
set_option maxRecDepth 100000 in
theorem f_X6_tell (l : Launch) (G : va_G) (cI cJ cZ cB cQ : ClassId) (sz : Nat) (h0 : Nat) (b : Nat → Nat) (h1 : Nat) (b1 : Nat → Nat) (h2 : Nat) : CV l yX6_tell (wl_ yX6_tell cX6_tell 5 none) ({ frames := 2, cells := 0, slots := 0, locals := 45 } : Room) G (TY cI cJ cZ cB cQ) [.ref h0, .ref h1, .ref h2] [(h0, oX6 b 0 0), (b 1, .inl (cI, 7, .inl (fun _ => 0))), (b 2, .inl (cI, 7, .inl (fun _ => 0))), (b 3, .inl (cJ, 7, .inr (.inl (fun _ => 0)))), (b 4, .inl (cI, 7, .inl (fun _ => 0))), (b 5, .inl (cI, 6, .inl (fun _ => 0))), (b 6, .inl (cI, 78, .inl (fun _ => 0))), (b 7, .inl (cJ, 13, .inr (.inl (fun _ => 0)))), (b 8, .inl (cJ, 13, .inr (.inl (fun _ => 0)))), (b 9, .inl (cJ, 13, .inr (.inl (fun _ => 0)))), (h1, oX0 b1 0 0 0 0 0 0 0 0 0 0)] sz (fun (u : (Nat → Int32) × (Nat → Int32)) => True) (fun u : (Nat → Int32) × (Nat → Int32) => [(h0, oX6 b 0 0), (b 1, .inl (cI, 7, .inl u.1)), (b 2, .inl (cI, 7, .inl (fun _ => 0))), (b 3, .inl (cJ, 7, .inr (.inl (fun _ => 0)))), (b 4, .inl (cI, 7, .inl (fun _ => 0))), (b 5, .inl (cI, 6, .inl (fun _ => 0))), (b 6, .inl (cI, 78, .inl u.2)), (b 7, .inl (cJ, 13, .inr (.inl (fun _ => 0)))), (b 8, .inl (cJ, 13, .inr (.inl (fun _ => 0)))), (b 9, .inl (cJ, 13, .inr (.inl (fun _ => 0)))), (h1, oX0 b1 0 0 0 0 0 0 0 0 0 0)]) 0 0 := by
  refine CV.go (cc := cX6_tell) (maxL := 5) (ret := none) (by decide) rfl (Nat.le_of_ble_eq_true rfl) ?_
  intro p e s m below meth c A ls Q hBd hret
  obtain ⟨hx, hb, hr, hml, hts, hown, hlk, hnm, hP, hK, hD, hA, hZ, hl⟩ := hBd
  have hown : s.vm.findClass RX6 = some m.cls := hown
  have hl : lv_has ls 5 [(0, .ref h0), (1, .ref h1), (2, .ref h2)] := hl
  have hS : va_S A s.heap s.heap [] := va_S.rf
  refine lv_aload_n hx hb dX6_tell_0 rfl (lv_at hl 0 rfl) ?_
  refine lv_aload_n hx hb dX6_tell_1 rfl (lv_at hl 1 rfl) ?_
  refine k_v (wc := [(h0, oX6 b 0 0), (b 1, .inl (cI, 7, .inl (fun _ => 0))), (b 2, .inl (cI, 7, .inl (fun _ => 0))), (b 3, .inl (cJ, 7, .inr (.inl (fun _ => 0)))), (b 4, .inl (cI, 7, .inl (fun _ => 0))), (b 5, .inl (cI, 6, .inl (fun _ => 0))), (b 6, .inl (cI, 78, .inl (fun _ => 0))), (b 7, .inl (cJ, 13, .inr (.inl (fun _ => 0)))), (b 8, .inl (cJ, 13, .inr (.inl (fun _ => 0)))), (b 9, .inl (cJ, 13, .inr (.inl (fun _ => 0)))), (h1, oX0 b1 0 0 0 0 0 0 0 0 0 0)]) (wr := []) hP hD hS hA [0, 1, 2, 3, 4, 5, 6, 7, 8, 9, 10] [] rfl rfl rfl (by decide) (va_runV (As := [.ref h1]) (rest := []) ⟨hx, hb, hml, hown, hts⟩ (f_X6_begin l G cI cJ cZ cB cQ _ h0 b h1 b1) (cwV 1 hts (gV w_586 w_588 wp_25 w_6 w_589) rfl rfl rfl ⟨rfl, hd_X6_begin⟩ ⟨Nat.le_of_ble_eq_true rfl, Nat.le_of_ble_eq_true rfl⟩) (mV hK hZ hP hD [0, 1, 2, 3, 4, 5, 6, 7, 8, 9, 10] rfl rfl [.ref h1] 0 6 rfl rfl) rfl rfl hl.1 rfl (lv_room (Nat.le_of_ble_eq_true rfl)) dX6_tell_2 ⟨Nat.le_of_ble_eq_true rfl, Nat.le_of_ble_eq_true rfl⟩) (fun u2 H locs hw3 hP hD hS => ?_)
  obtain ⟨f14, f65⟩ := u2
  have hP : va_P G vwCl [(h0, oX6 b 0 0), (b 1, .inl (cI, 7, .inl f14)), (b 2, .inl (cI, 7, .inl (fun _ => 0))), (b 3, .inl (cJ, 7, .inr (.inl (fun _ => 0)))), (b 4, .inl (cI, 7, .inl (fun _ => 0))), (b 5, .inl (cI, 6, .inl (fun _ => 0))), (b 6, .inl (cI, 78, .inl f65)), (b 7, .inl (cJ, 13, .inr (.inl (fun _ => 0)))), (b 8, .inl (cJ, 13, .inr (.inl (fun _ => 0)))), (b 9, .inl (cJ, 13, .inr (.inl (fun _ => 0)))), (h1, oX0 b1 0 0 0 0 0 0 0 0 0 0)] H := hP
  have hD : va_D A [(h0, oX6 b 0 0), (b 1, .inl (cI, 7, .inl f14)), (b 2, .inl (cI, 7, .inl (fun _ => 0))), (b 3, .inl (cJ, 7, .inr (.inl (fun _ => 0)))), (b 4, .inl (cI, 7, .inl (fun _ => 0))), (b 5, .inl (cI, 6, .inl (fun _ => 0))), (b 6, .inl (cI, 78, .inl f65)), (b 7, .inl (cJ, 13, .inr (.inl (fun _ => 0)))), (b 8, .inl (cJ, 13, .inr (.inl (fun _ => 0)))), (b 9, .inl (cJ, 13, .inr (.inl (fun _ => 0)))), (h1, oX0 b1 0 0 0 0 0 0 0 0 0 0)] := hD
  refine lv_iconst (v := 0) hx hb dX6_tell_5 (by decide) ?_
  refine lv_istore_n (lv' := [(3, .int 0), (0, .ref h0), (1, .ref h1), (2, .ref h2)]) hx hb dX6_tell_6 rfl hl (by decide) rfl (fun ls hl => ?_)
  refine lv_iload_n hx hb dX6_tell_7 rfl (lv_at hl 0 rfl) ?_
  refine lv_aload_n hx hb dX6_tell_8 rfl (lv_at hl 2 rfl) ?_
  refine va_getN (D := G) (ci := 0) (v := .int 0) (C := RX0) (T := TX0) (N := 19) hx hb hts iG_X0 hown hK hP 10 rfl rfl 1 (by decide) (nz_use hZ nw_59 rfl) (fun _ h9 => h9) rfl dX6_tell_9 ?_
  refine lv_icmp_ge (tgt := 89) hx hb dX6_tell_12 (by decide) (fun c6 => ?_) (fun c6 => absurd (by decide) c6)
  exact hret _ _ _ _ (f14, f65) hP hD hS dX6_tell_89 trivial
set_option maxHeartbeats 4000000 in
set_option maxRecDepth 100000 in
theorem f_X8_byteAt (l : Launch) (G : va_G) (cI cJ cZ cB cQ : ClassId) (sz : Nat) (h0 : Nat) (b : Nat → Nat) (p0 : Int32) : CI l yX8_byteAt (wl_ yX8_byteAt cX8_byteAt 2 (some .int)) ({ frames := 0, cells := 0, slots := 0, locals := 0 } : Room) G (TY cI cJ cZ cB cQ) [.ref h0, .int p0] [(h0, oX8 b 0)] sz (fun (r : Int32) (u : Unit) => r = (-1)) (fun _ : Unit => [(h0, oX8 b 0)]) 0 0 := by
  refine CI.go (cc := cX8_byteAt) (maxL := 2) (ret := (some .int)) (by decide) rfl (Nat.le_of_ble_eq_true rfl) ?_
  intro p e s m below meth c A ls Q hBd hret
  obtain ⟨hx, hb, hr, hml, hts, hown, hlk, hnm, hP, hK, hD, hA, hZ, hl⟩ := hBd
  have hown : s.vm.findClass RX8 = some m.cls := hown
  have hl : lv_has ls 2 [(0, .ref h0), (1, .int p0)] := hl
  have hS : va_S A s.heap s.heap [] := va_S.rf
  refine lv_iload_n hx hb dX8_byteAt_0 rfl (lv_at hl 1 rfl) ?_
  refine lv_if_lt (tgt := 25) hx hb dX8_byteAt_1 (by decide) (fun c1 => ?_) (fun c1 => ?_)
  · have c1 := i_lt rfl ki_0 c1
    refine lv_iconst (v := (-1)) hx hb dX8_byteAt_25 (by decide) ?_
    exact hret _ _ _ _ (-1) () hP hD hS dX8_byteAt_26 rfl
  · have c1 := i_nlt rfl ki_0 c1
    refine lv_iload_n hx hb dX8_byteAt_4 rfl (lv_at hl 1 rfl) ?_
    refine lv_aload_n hx hb dX8_byteAt_5 rfl (lv_at hl 0 rfl) ?_
    refine va_get (D := G) (ci := 8) (v := .int 0) (C := RX8) (T := TX8) (N := 2) hx hb hts iG_X8 hown hK hP 0 rfl rfl 1 (by decide) (hts _ w_42) (fun _ h9 => h9) rfl dX8_byteAt_6 ?_
    refine lv_icmp_ge (tgt := 25) hx hb dX8_byteAt_9 (by decide) (fun c2 => ?_) (fun c2 => absurd (i_nle ki_0 rfl c2) (by omega))
    have c2 := i_le ki_0 rfl c2
    refine lv_iconst (v := (-1)) hx hb dX8_byteAt_25 (by decide) ?_
    exact hret _ _ _ _ (-1) () hP hD hS dX8_byteAt_26 rfl
set_option maxHeartbeats 4000000 in
set_option maxRecDepth 100000 in
theorem f_X8_put (l : Launch) (G : va_G) (cI cJ cZ cB cQ : ClassId) (sz : Nat) (h0 : Nat) (b : Nat → Nat) (p0 : Int32) (ln : Int32) (f0 : Nat → Int32) (n0 : Int) (hn : ln.toInt = n0) (h1 : 0 ≤ n0) (h2 : n0 ≤ 16) : CV l yX8_put (wl_ yX8_put cX8_put 3 none) ({ frames := 0, cells := 0, slots := 0, locals := 0 } : Room) G (TY cI cJ cZ cB cQ) [.ref h0, .int p0] [(h0, oX8 b ln), (b 0, .inl (cB, 900, .inl f0))] sz (fun (u : Int32 × (Nat → Int32)) => u.1.toInt = n0 + 4) (fun u : Int32 × (Nat → Int32) => [(h0, oX8 b u.1), (b 0, .inl (cB, 900, .inl u.2))]) 0 0 := by
  refine CV.go (cc := cX8_put) (maxL := 3) (ret := none) (by decide) rfl (Nat.le_of_ble_eq_true rfl) ?_
  intro p e s m below meth c A ls Q hBd hret
  obtain ⟨hx, hb, hr, hml, hts, hown, hlk, hnm, hP, hK, hD, hA, hZ, hl⟩ := hBd
  have hown : s.vm.findClass RX8 = some m.cls := hown
  have hl : lv_has ls 3 [(0, .ref h0), (1, .int p0)] := hl
  have hS : va_S A s.heap s.heap [] := va_S.rf
  refine lv_bipush (v := 24) hx hb dX8_put_0 (by decide) ?_
  refine lv_istore_n (lv' := [(2, .int 24), (0, .ref h0), (1, .int p0)]) hx hb dX8_put_2 rfl hl (by decide) rfl (fun ls hl => ?_)
  refine lv_iload_n hx hb dX8_put_3 rfl (lv_at hl 0 rfl) ?_
  refine lv_if_lt (tgt := 46) hx hb dX8_put_4 (by decide) (fun c1 => absurd c1 (by decide)) (fun c1 => ?_)
  refine lv_aload_n hx hb dX8_put_7 rfl (lv_at hl 1 rfl) ?_
  refine va_get (D := G) (ci := 8) (v := .int ln) (C := RX8) (T := TX8) (N := 2) hx hb hts iG_X8 hown hK hP 0 rfl rfl 1 (by decide) (hts _ w_42) (fun _ h9 => h9) rfl dX8_put_8 ?_
  refine lv_sipush (v := 900) hx hb dX8_put_11 (by decide) ?_
  refine lv_icmp_ge (tgt := 46) hx hb dX8_put_14 (by decide) (fun c2 => absurd (i_le ki_900 hn c2) (by omega)) (fun c2 => ?_)
  have c2 := i_nle ki_900 hn c2
  refine lv_aload_n hx hb dX8_put_17 rfl (lv_at hl 1 rfl) ?_
  refine va_get (D := G) (ci := 8) (v := .ref (b 0)) (C := RX8) (T := TX8) (N := 2) hx hb hts iG_X8 hown hK hP 0 rfl rfl 0 (by decide) (hts _ w_40) (fun _ h9 => h9) rfl dX8_put_18 ?_
  refine lv_aload_n hx hb dX8_put_21 rfl (lv_at hl 1 rfl) ?_
  refine va_get (D := G) (ci := 8) (v := .int ln) (C := RX8) (T := TX8) (N := 2) hx hb hts iG_X8 hown hK hP 0 rfl rfl 1 (by decide) (hts _ w_42) (fun _ h9 => h9) rfl dX8_put_22 ?_
  refine lv_iload_n hx hb dX8_put_25 rfl (lv_at hl 2 rfl) ?_
  refine lv_iload_n hx hb dX8_put_26 rfl (lv_at hl 0 rfl) ?_
  refine lv_ishr hx hb dX8_put_27 ?_
  refine lv_topi (fun v3 ev3 => ?_)
  refine lv_i2b hx hb dX8_put_28 rfl ?_
  refine lv_topi (fun v4 ev4 => ?_)
  refine va_bast hx hb hK hP hD hS 1 3 rfl rfl (ix_in hn (by omega) (by omega)) dX8_put_29 (fun H locs hP hD hS => ?_)
  generalize upd f0 ln.toNatClampNeg (vp_nar .byte v4) = f5 at hP hD
  have hP : va_P G vwCl [(h0, oX8 b ln), (b 0, .inl (cB, 900, .inl f5))] H := hP
  have hD : va_D A [(h0, oX8 b ln), (b 0, .inl (cB, 900, .inl f5))] := hD
  refine lv_aload_n hx hb dX8_put_30 rfl (lv_at hl 1 rfl) ?_
  refine lv_dup hx hb dX8_put_31 rfl ?_
  refine va_get (D := G) (ci := 8) (v := .int ln) (C := RX8) (T := TX8) (N := 2) hx hb hts iG_X8 hown hK hP 0 rfl rfl 1 (by decide) (hts _ w_42) (fun _ h9 => h9) rfl dX8_put_32 ?_
  refine lv_iconst (v := 1) hx hb dX8_put_35 (by decide) ?_
  refine lv_iadd hx hb dX8_put_36 ?_
  refine lv_topi (fun v6 ev6 => ?_)
  have tv6 : v6.toInt = n0 + 1 := ti_add hn ki_1 ev6 (by omega) (by omega)
  refine va_put (D := G) (ci := 8) (v := .int v6) (ty := .int) (C := RX8) (T := TX8) (N := 2) hx hb hts iG_X8 tyX8 tyX8_ok nmX8 hown hK hP hD hS 0 rfl rfl 1 (by decide) (hts _ w_42) (fun _ h9 => h9) rfl (by decide +kernel) rfl rfl (Nat.le_of_ble_eq_true rfl) dX8_put_37 (fun H locs hP hD hS => ?_)
  have hP : va_P G vwCl [(h0, oX8 b v6), (b 0, .inl (cB, 900, .inl f5))] H := hP
  have hD : va_D A [(h0, oX8 b v6), (b 0, .inl (cB, 900, .inl f5))] := hD
  refine lv_iinc (v := 16) (lv' := [(2, .int 16), (0, .ref h0), (1, .int p0)]) hx hb dX8_put_40 hl (k := 0) rfl (by decide) (by decide) rfl (fun ls hl => ?_)
  refine lv_goto (tgt := 3) hx hb dX8_put_43 (by decide) ?_
  refine lv_iload_n hx hb dX8_put_3 rfl (lv_at hl 0 rfl) ?_
  refine lv_if_lt (tgt := 46) hx hb dX8_put_4 (by decide) (fun c7 => absurd c7 (by decide)) (fun c7 => ?_)
  refine lv_aload_n hx hb dX8_put_7 rfl (lv_at hl 1 rfl) ?_
  refine va_get (D := G) (ci := 8) (v := .int v6) (C := RX8) (T := TX8) (N := 2) hx hb hts iG_X8 hown hK hP 0 rfl rfl 1 (by decide) (hts _ w_42) (fun _ h9 => h9) rfl dX8_put_8 ?_
  refine lv_sipush (v := 900) hx hb dX8_put_11 (by decide) ?_
  refine lv_icmp_ge (tgt := 46) hx hb dX8_put_14 (by decide) (fun c8 => absurd (i_le ki_900 tv6 c8) (by omega)) (fun c8 => ?_)
  have c8 := i_nle ki_900 tv6 c8
  refine lv_aload_n hx hb dX8_put_17 rfl (lv_at hl 1 rfl) ?_
  refine va_get (D := G) (ci := 8) (v := .ref (b 0)) (C := RX8) (T := TX8) (N := 2) hx hb hts iG_X8 hown hK hP 0 rfl rfl 0 (by decide) (hts _ w_40) (fun _ h9 => h9) rfl dX8_put_18 ?_
  refine lv_aload_n hx hb dX8_put_21 rfl (lv_at hl 1 rfl) ?_
  refine va_get (D := G) (ci := 8) (v := .int v6) (C := RX8) (T := TX8) (N := 2) hx hb hts iG_X8 hown hK hP 0 rfl rfl 1 (by decide) (hts _ w_42) (fun _ h9 => h9) rfl dX8_put_22 ?_
  refine lv_iload_n hx hb dX8_put_25 rfl (lv_at hl 2 rfl) ?_
  refine lv_iload_n hx hb dX8_put_26 rfl (lv_at hl 0 rfl) ?_
  refine lv_ishr hx hb dX8_put_27 ?_
  refine lv_topi (fun v9 ev9 => ?_)
  refine lv_i2b hx hb dX8_put_28 rfl ?_
  refine lv_topi (fun v10 ev10 => ?_)
  refine va_bast hx hb hK hP hD hS 1 3 rfl rfl (ix_in tv6 (by omega) (by omega)) dX8_put_29 (fun H locs hP hD hS => ?_)
  generalize upd f5 v6.toNatClampNeg (vp_nar .byte v10) = f11 at hP hD
  have hP : va_P G vwCl [(h0, oX8 b v6), (b 0, .inl (cB, 900, .inl f11))] H := hP
  have hD : va_D A [(h0, oX8 b v6), (b 0, .inl (cB, 900, .inl f11))] := hD
  refine lv_aload_n hx hb dX8_put_30 rfl (lv_at hl 1 rfl) ?_
  refine lv_dup hx hb dX8_put_31 rfl ?_
  refine va_get (D := G) (ci := 8) (v := .int v6) (C := RX8) (T := TX8) (N := 2) hx hb hts iG_X8 hown hK hP 0 rfl rfl 1 (by decide) (hts _ w_42) (fun _ h9 => h9) rfl dX8_put_32 ?_
  refine lv_iconst (v := 1) hx hb dX8_put_35 (by decide) ?_
  refine lv_iadd hx hb dX8_put_36 ?_
  refine lv_topi (fun v12 ev12 => ?_)
  have tv12 : v12.toInt = n0 + 1 + 1 := ti_add tv6 ki_1 ev12 (by omega) (by omega)
  refine va_put (D := G) (ci := 8) (v := .int v12) (ty := .int) (C := RX8) (T := TX8) (N := 2) hx hb hts iG_X8 tyX8 tyX8_ok nmX8 hown hK hP hD hS 0 rfl rfl 1 (by decide) (hts _ w_42) (fun _ h9 => h9) rfl (by decide +kernel) rfl rfl (Nat.le_of_ble_eq_true rfl) dX8_put_37 (fun H locs hP hD hS => ?_)
  have hP : va_P G vwCl [(h0, oX8 b v12), (b 0, .inl (cB, 900, .inl f11))] H := hP
  have hD : va_D A [(h0, oX8 b v12), (b 0, .inl (cB, 900, .inl f11))] := hD
  refine lv_iinc (v := 8) (lv' := [(2, .int 8), (0, .ref h0), (1, .int p0)]) hx hb dX8_put_40 hl (k := 0) rfl (by decide) (by decide) rfl (fun ls hl => ?_)
  refine lv_goto (tgt := 3) hx hb dX8_put_43 (by decide) ?_
  refine lv_iload_n hx hb dX8_put_3 rfl (lv_at hl 0 rfl) ?_
  refine lv_if_lt (tgt := 46) hx hb dX8_put_4 (by decide) (fun c13 => absurd c13 (by decide)) (fun c13 => ?_)
  refine lv_aload_n hx hb dX8_put_7 rfl (lv_at hl 1 rfl) ?_
  refine va_get (D := G) (ci := 8) (v := .int v12) (C := RX8) (T := TX8) (N := 2) hx hb hts iG_X8 hown hK hP 0 rfl rfl 1 (by decide) (hts _ w_42) (fun _ h9 => h9) rfl dX8_put_8 ?_
  refine lv_sipush (v := 900) hx hb dX8_put_11 (by decide) ?_
  refine lv_icmp_ge (tgt := 46) hx hb dX8_put_14 (by decide) (fun c14 => absurd (i_le ki_900 tv12 c14) (by omega)) (fun c14 => ?_)
  have c14 := i_nle ki_900 tv12 c14
  refine lv_aload_n hx hb dX8_put_17 rfl (lv_at hl 1 rfl) ?_
  refine va_get (D := G) (ci := 8) (v := .ref (b 0)) (C := RX8) (T := TX8) (N := 2) hx hb hts iG_X8 hown hK hP 0 rfl rfl 0 (by decide) (hts _ w_40) (fun _ h9 => h9) rfl dX8_put_18 ?_
  refine lv_aload_n hx hb dX8_put_21 rfl (lv_at hl 1 rfl) ?_
  refine va_get (D := G) (ci := 8) (v := .int v12) (C := RX8) (T := TX8) (N := 2) hx hb hts iG_X8 hown hK hP 0 rfl rfl 1 (by decide) (hts _ w_42) (fun _ h9 => h9) rfl dX8_put_22 ?_
  refine lv_iload_n hx hb dX8_put_25 rfl (lv_at hl 2 rfl) ?_
  refine lv_iload_n hx hb dX8_put_26 rfl (lv_at hl 0 rfl) ?_
  refine lv_ishr hx hb dX8_put_27 ?_
  refine lv_topi (fun v15 ev15 => ?_)
  refine lv_i2b hx hb dX8_put_28 rfl ?_
  refine lv_topi (fun v16 ev16 => ?_)
  refine va_bast hx hb hK hP hD hS 1 3 rfl rfl (ix_in tv12 (by omega) (by omega)) dX8_put_29 (fun H locs hP hD hS => ?_)
  generalize upd f11 v12.toNatClampNeg (vp_nar .byte v16) = f17 at hP hD
  have hP : va_P G vwCl [(h0, oX8 b v12), (b 0, .inl (cB, 900, .inl f17))] H := hP
  have hD : va_D A [(h0, oX8 b v12), (b 0, .inl (cB, 900, .inl f17))] := hD
  refine lv_aload_n hx hb dX8_put_30 rfl (lv_at hl 1 rfl) ?_
  refine lv_dup hx hb dX8_put_31 rfl ?_
  refine va_get (D := G) (ci := 8) (v := .int v12) (C := RX8) (T := TX8) (N := 2) hx hb hts iG_X8 hown hK hP 0 rfl rfl 1 (by decide) (hts _ w_42) (fun _ h9 => h9) rfl dX8_put_32 ?_
  refine lv_iconst (v := 1) hx hb dX8_put_35 (by decide) ?_
  refine lv_iadd hx hb dX8_put_36 ?_
  refine lv_topi (fun v18 ev18 => ?_)
  have tv18 : v18.toInt = n0 + 1 + 1 + 1 := ti_add tv12 ki_1 ev18 (by omega) (by omega)
  refine va_put (D := G) (ci := 8) (v := .int v18) (ty := .int) (C := RX8) (T := TX8) (N := 2) hx hb hts iG_X8 tyX8 tyX8_ok nmX8 hown hK hP hD hS 0 rfl rfl 1 (by decide) (hts _ w_42) (fun _ h9 => h9) rfl (by decide +kernel) rfl rfl (Nat.le_of_ble_eq_true rfl) dX8_put_37 (fun H locs hP hD hS => ?_)
  have hP : va_P G vwCl [(h0, oX8 b v18), (b 0, .inl (cB, 900, .inl f17))] H := hP
  have hD : va_D A [(h0, oX8 b v18), (b 0, .inl (cB, 900, .inl f17))] := hD
  refine lv_iinc (v := 0) (lv' := [(2, .int 0), (0, .ref h0), (1, .int p0)]) hx hb dX8_put_40 hl (k := 0) rfl (by decide) (by decide) rfl (fun ls hl => ?_)
  refine lv_goto (tgt := 3) hx hb dX8_put_43 (by decide) ?_
  refine lv_iload_n hx hb dX8_put_3 rfl (lv_at hl 0 rfl) ?_
  refine lv_if_lt (tgt := 46) hx hb dX8_put_4 (by decide) (fun c19 => absurd c19 (by decide)) (fun c19 => ?_)
  refine lv_aload_n hx hb dX8_put_7 rfl (lv_at hl 1 rfl) ?_
  refine va_get (D := G) (ci := 8) (v := .int v18) (C := RX8) (T := TX8) (N := 2) hx hb hts iG_X8 hown hK hP 0 rfl rfl 1 (by decide) (hts _ w_42) (fun _ h9 => h9) rfl dX8_put_8 ?_
  refine lv_sipush (v := 900) hx hb dX8_put_11 (by decide) ?_
  refine lv_icmp_ge (tgt := 46) hx hb dX8_put_14 (by decide) (fun c20 => absurd (i_le ki_900 tv18 c20) (by omega)) (fun c20 => ?_)
  have c20 := i_nle ki_900 tv18 c20
  refine lv_aload_n hx hb dX8_put_17 rfl (lv_at hl 1 rfl) ?_
  refine va_get (D := G) (ci := 8) (v := .ref (b 0)) (C := RX8) (T := TX8) (N := 2) hx hb hts iG_X8 hown hK hP 0 rfl rfl 0 (by decide) (hts _ w_40) (fun _ h9 => h9) rfl dX8_put_18 ?_
  refine lv_aload_n hx hb dX8_put_21 rfl (lv_at hl 1 rfl) ?_
  refine va_get (D := G) (ci := 8) (v := .int v18) (C := RX8) (T := TX8) (N := 2) hx hb hts iG_X8 hown hK hP 0 rfl rfl 1 (by decide) (hts _ w_42) (fun _ h9 => h9) rfl dX8_put_22 ?_
  refine lv_iload_n hx hb dX8_put_25 rfl (lv_at hl 2 rfl) ?_
  refine lv_iload_n hx hb dX8_put_26 rfl (lv_at hl 0 rfl) ?_
  refine lv_ishr hx hb dX8_put_27 ?_
  refine lv_topi (fun v21 ev21 => ?_)
  refine lv_i2b hx hb dX8_put_28 rfl ?_
  refine lv_topi (fun v22 ev22 => ?_)
  refine va_bast hx hb hK hP hD hS 1 3 rfl rfl (ix_in tv18 (by omega) (by omega)) dX8_put_29 (fun H locs hP hD hS => ?_)
  generalize upd f17 v18.toNatClampNeg (vp_nar .byte v22) = f23 at hP hD
  have hP : va_P G vwCl [(h0, oX8 b v18), (b 0, .inl (cB, 900, .inl f23))] H := hP
  have hD : va_D A [(h0, oX8 b v18), (b 0, .inl (cB, 900, .inl f23))] := hD
  refine lv_aload_n hx hb dX8_put_30 rfl (lv_at hl 1 rfl) ?_
  refine lv_dup hx hb dX8_put_31 rfl ?_
  refine va_get (D := G) (ci := 8) (v := .int v18) (C := RX8) (T := TX8) (N := 2) hx hb hts iG_X8 hown hK hP 0 rfl rfl 1 (by decide) (hts _ w_42) (fun _ h9 => h9) rfl dX8_put_32 ?_
  refine lv_iconst (v := 1) hx hb dX8_put_35 (by decide) ?_
  refine lv_iadd hx hb dX8_put_36 ?_
  refine lv_topi (fun v24 ev24 => ?_)
  have tv24 : v24.toInt = n0 + 1 + 1 + 1 + 1 := ti_add tv18 ki_1 ev24 (by omega) (by omega)
  refine va_put (D := G) (ci := 8) (v := .int v24) (ty := .int) (C := RX8) (T := TX8) (N := 2) hx hb hts iG_X8 tyX8 tyX8_ok nmX8 hown hK hP hD hS 0 rfl rfl 1 (by decide) (hts _ w_42) (fun _ h9 => h9) rfl (by decide +kernel) rfl rfl (Nat.le_of_ble_eq_true rfl) dX8_put_37 (fun H locs hP hD hS => ?_)
  have hP : va_P G vwCl [(h0, oX8 b v24), (b 0, .inl (cB, 900, .inl f23))] H := hP
  have hD : va_D A [(h0, oX8 b v24), (b 0, .inl (cB, 900, .inl f23))] := hD
  refine lv_iinc (v := (-8)) (lv' := [(2, .int (-8)), (0, .ref h0), (1, .int p0)]) hx hb dX8_put_40 hl (k := 0) rfl (by decide) (by decide) rfl (fun ls hl => ?_)
  refine lv_goto (tgt := 3) hx hb dX8_put_43 (by decide) ?_
  refine lv_iload_n hx hb dX8_put_3 rfl (lv_at hl 0 rfl) ?_
  refine lv_if_lt (tgt := 46) hx hb dX8_put_4 (by decide) (fun c25 => ?_) (fun c25 => absurd (by decide) c25)
  exact hret _ _ _ _ (v24, f23) hP hD hS dX8_put_46 (by dsimp only; omega)
set_option maxHeartbeats 4000000 in
set_option maxRecDepth 100000 in
theorem f_X4_isBlank (l : Launch) (G : va_G) (cI cJ cZ cB cQ : ClassId) (sz : Nat) : CI l yX4_isBlank (wl_ yX4_isBlank cX4_isBlank 1 (some .boolean)) ({ frames := 0, cells := 0, slots := 0, locals := 0 } : Room) G (TY cI cJ cZ cB cQ) [.int (-1)] [] sz (fun (r : Int32) (u : Unit) => r = 0) (fun _ : Unit => []) 0 0 := by
  refine CI.goz (cc := cX4_isBlank) (maxL := 1) (ret := (some .boolean)) (by decide) rfl (Nat.le_of_ble_eq_true rfl) ?_
  intro p e s m below meth c A ls Q hBd hret
  obtain ⟨hx, hb, hr, hml, hts, hown, hlk, hnm, hP, hK, hD, hA, hZ, hl⟩ := hBd
  have hown : s.vm.findClass RX4 = some m.cls := hown
  have hl : lv_has ls 1 [(0, .int (-1))] := hl
  have hS : va_S A s.heap s.heap [] := va_S.rf
  refine lv_iload_n hx hb dX4_isBlank_0 rfl (lv_at hl 0 rfl) ?_
  refine lv_bipush (v := 32) hx hb dX4_isBlank_1 (by decide) ?_
  refine lv_icmp_eq (tgt := 12) hx hb dX4_isBlank_3 (by decide) (fun c1 => absurd c1 (by decide)) (fun c1 => ?_)
  refine lv_iload_n hx hb dX4_isBlank_6 rfl (lv_at hl 0 rfl) ?_
  refine lv_bipush (v := 10) hx hb dX4_isBlank_7 (by decide) ?_
  refine lv_icmp_ne (tgt := 16) hx hb dX4_isBlank_9 (by decide) (fun c2 => ?_) (fun c2 => absurd c2 (by decide))
  refine lv_iconst (v := 0) hx hb dX4_isBlank_16 (by decide) ?_
  exact hret _ _ _ _ 0 () hP hD hS dX4_isBlank_17 rfl rfl
set_option maxHeartbeats 4000000 in
set_option maxRecDepth 100000 in
theorem f_X4_next (l : Launch) (G : va_G) (cI cJ cZ cB cQ : ClassId) (sz : Nat) (h0 : Nat) (b : Nat → Nat) (bt : Nat → Nat) : CV l yX4_next (wl_ yX4_next cX4_next 2 none) ({ frames := 1, cells := 0, slots := 0, locals := 21 } : Room) G (TY cI cJ cZ cB cQ) [.ref h0] [(h0, oX4 b 0 (-1) 0 0 0), (b 2, oX8 bt 0)] sz (fun (u : Unit) => True) (fun _ : Unit => [(h0, oX4 b 0 (-1) 0 0 1), (b 2, oX8 bt 0)]) 0 0 := by
  refine CV.go (cc := cX4_next) (maxL := 2) (ret := none) (by decide) rfl (Nat.le_of_ble_eq_true rfl) ?_
  intro p e s m below meth c A ls Q hBd hret
  obtain ⟨hx, hb, hr, hml, hts, hown, hlk, hnm, hP, hK, hD, hA, hZ, hl⟩ := hBd
  have hown : s.vm.findClass RX4 = some m.cls := hown
  have hl : lv_has ls 2 [(0, .ref h0)] := hl
  have hS : va_S A s.heap s.heap [] := va_S.rf
  refine lv_aload_n hx hb dX4_next_0 rfl (lv_at hl 0 rfl) ?_
  refine lv_aload_n hx hb dX4_next_1 rfl (lv_at hl 0 rfl) ?_
  refine va_get (D := G) (ci := 4) (v := .int 0) (C := RX4) (T := TX4) (N := 7) hx hb hts iG_X4 hown hK hP 0 rfl rfl 6 (by decide) (hts _ w_173) (fun _ h9 => h9) rfl dX4_next_2 ?_
  refine va_put (D := G) (ci := 4) (v := .int 0) (ty := .int) (C := RX4) (T := TX4) (N := 7) hx hb hts iG_X4 tyX4 tyX4_ok nmX4 hown hK hP hD hS 0 rfl rfl 5 (by decide) (hts _ w_172) (fun _ h9 => h9) rfl (by decide +kernel) rfl rfl (Nat.le_of_ble_eq_true rfl) dX4_next_5 (fun H locs hP hD hS => ?_)
  have hP : va_P G vwCl [(h0, oX4 b 0 (-1) 0 0 0), (b 2, oX8 bt 0)] H := hP
  have hD : va_D A [(h0, oX4 b 0 (-1) 0 0 0), (b 2, oX8 bt 0)] := hD
  refine lv_aload_n hx hb dX4_next_8 rfl (lv_at hl 0 rfl) ?_
  refine va_get (D := G) (ci := 4) (v := .int 0) (C := RX4) (T := TX4) (N := 7) hx hb hts iG_X4 hown hK hP 0 rfl rfl 5 (by decide) (hts _ w_172) (fun _ h9 => h9) rfl dX4_next_9 ?_
  refine lv_sipush (v := 900) hx hb dX4_next_12 (by decide) ?_
  refine lv_icmp_ge (tgt := 48) hx hb dX4_next_15 (by decide) (fun c1 => absurd c1 (by decide)) (fun c1 => ?_)
  refine lv_aload_n hx hb dX4_next_18 rfl (lv_at hl 0 rfl) ?_
  refine va_get (D := G) (ci := 4) (v := .ref (b 2)) (C := RX4) (T := TX4) (N := 7) hx hb hts iG_X4 hown hK hP 0 rfl rfl 2 (by decide) (hts _ w_167) (fun _ h9 => h9) rfl dX4_next_19 ?_
  refine lv_aload_n hx hb dX4_next_22 rfl (lv_at hl 0 rfl) ?_
  refine va_get (D := G) (ci := 4) (v := .int 0) (C := RX4) (T := TX4) (N := 7) hx hb hts iG_X4 hown hK hP 0 rfl rfl 5 (by decide) (hts _ w_172) (fun _ h9 => h9) rfl dX4_next_23 ?_
  refine k_i (wc := [(b 2, oX8 bt 0)]) (wr := [(h0, oX4 b 0 (-1) 0 0 0)]) hP hD hS hA [1] [0] rfl rfl rfl (by decide) (va_runVN (As := [.int 0]) (rest := []) ⟨hx, hb, hml, hown, hts⟩ (f_X8_byteAt l G cI cJ cZ cB cQ _ (b 2) bt 0) ⟨va_cnB (host := "WidowRoads") 1 hts (gW w_416) rfl rfl rfl (nz_nw hZ nw_413 rfl) (hts _ w_3) hd_X8_byteAt ⟨Nat.le_of_ble_eq_true rfl, Nat.le_of_ble_eq_true rfl⟩, (hts _ w_415), (hts _ wp_4)⟩ (mV hK hZ hP hD [1] rfl rfl [.int 0] 1 8 rfl rfl) rfl rfl hl.1 rfl (lv_room (Nat.le_of_ble_eq_true rfl)) dX4_next_26 ⟨Nat.le_of_ble_eq_true rfl, Nat.le_of_ble_eq_true rfl⟩) (fun r2 u3 H locs hw4 hP hD hS => ?_)
  try dsimp only at hw4
  have hP : va_P G vwCl [(h0, oX4 b 0 (-1) 0 0 0), (b 2, oX8 bt 0)] H := hP
  have hD : va_D A [(h0, oX4 b 0 (-1) 0 0 0), (b 2, oX8 bt 0)] := hD
  obtain rfl : r2 = (-1) := hw4
  refine k_i (wc := []) (wr := [(h0, oX4 b 0 (-1) 0 0 0), (b 2, oX8 bt 0)]) hP hD hS hA [] [0, 1] rfl rfl rfl (by decide) (va_runS (As := [.int (-1)]) (rest := []) ⟨hx, hb, hml, hown, hts⟩ (f_X4_isBlank l G cI cJ cZ cB cQ _ ) (va_cwS 1 hts (gS w_417 w_418 w_2 w_419) rfl rfl rfl hd_X4_isBlank ⟨Nat.le_of_ble_eq_true rfl, Nat.le_of_ble_eq_true rfl⟩) (mS hK hZ hP hD [] rfl rfl [.int (-1)]) rfl rfl hl.1 rfl (lv_room (Nat.le_of_ble_eq_true rfl)) dX4_next_29 ⟨Nat.le_of_ble_eq_true rfl, Nat.le_of_ble_eq_true rfl⟩) (fun r5 u6 H locs hw7 hP hD hS => ?_)
  try dsimp only at hw7
  have hP : va_P G vwCl [(h0, oX4 b 0 (-1) 0 0 0), (b 2, oX8 bt 0)] H := hP
  have hD : va_D A [(h0, oX4 b 0 (-1) 0 0 0), (b 2, oX8 bt 0)] := hD
  obtain rfl : r5 = 0 := hw7
  refine lv_if_eq (tgt := 48) hx hb dX4_next_32 (by decide) (fun c8 => ?_) (fun c8 => absurd (by decide) c8)
  refine lv_aload_n hx hb dX4_next_48 rfl (lv_at hl 0 rfl) ?_
  refine va_get (D := G) (ci := 4) (v := .ref (b 2)) (C := RX4) (T := TX4) (N := 7) hx hb hts iG_X4 hown hK hP 0 rfl rfl 2 (by decide) (hts _ w_167) (fun _ h9 => h9) rfl dX4_next_49 ?_
  refine lv_aload_n hx hb dX4_next_52 rfl (lv_at hl 0 rfl) ?_
  refine va_get (D := G) (ci := 4) (v := .int 0) (C := RX4) (T := TX4) (N := 7) hx hb hts iG_X4 hown hK hP 0 rfl rfl 5 (by decide) (hts _ w_172) (fun _ h9 => h9) rfl dX4_next_53 ?_
  refine k_i (wc := [(b 2, oX8 bt 0)]) (wr := [(h0, oX4 b 0 (-1) 0 0 0)]) hP hD hS hA [1] [0] rfl rfl rfl (by decide) (va_runVN (As := [.int 0]) (rest := []) ⟨hx, hb, hml, hown, hts⟩ (f_X8_byteAt l G cI cJ cZ cB cQ _ (b 2) bt 0) ⟨va_cnB (host := "WidowRoads") 1 hts (gW w_416) rfl rfl rfl (nz_nw hZ nw_413 rfl) (hts _ w_3) hd_X8_byteAt ⟨Nat.le_of_ble_eq_true rfl, Nat.le_of_ble_eq_true rfl⟩, (hts _ w_415), (hts _ wp_4)⟩ (mV hK hZ hP hD [1] rfl rfl [.int 0] 1 8 rfl rfl) rfl rfl hl.1 rfl (lv_room (Nat.le_of_ble_eq_true rfl)) dX4_next_56 ⟨Nat.le_of_ble_eq_true rfl, Nat.le_of_ble_eq_true rfl⟩) (fun r9 u10 H locs hw11 hP hD hS => ?_)
  try dsimp only at hw11
  have hP : va_P G vwCl [(h0, oX4 b 0 (-1) 0 0 0), (b 2, oX8 bt 0)] H := hP
  have hD : va_D A [(h0, oX4 b 0 (-1) 0 0 0), (b 2, oX8 bt 0)] := hD
  obtain rfl : r9 = (-1) := hw11
  refine lv_istore_n (lv' := [(1, .int (-1)), (0, .ref h0)]) hx hb dX4_next_59 rfl hl (by decide) rfl (fun ls hl => ?_)
  refine lv_aload_n hx hb dX4_next_60 rfl (lv_at hl 1 rfl) ?_
  refine lv_aload_n hx hb dX4_next_61 rfl (lv_at hl 1 rfl) ?_
  refine va_get (D := G) (ci := 4) (v := .int 0) (C := RX4) (T := TX4) (N := 7) hx hb hts iG_X4 hown hK hP 0 rfl rfl 5 (by decide) (hts _ w_172) (fun _ h9 => h9) rfl dX4_next_62 ?_
  refine lv_iconst (v := 1) hx hb dX4_next_65 (by decide) ?_
  refine lv_iadd hx hb dX4_next_66 ?_
  refine lv_topi (fun v12 ev12 => ?_)
  obtain rfl : v12 = 1 := ev12.trans (by decide)
  refine va_put (D := G) (ci := 4) (v := .int 1) (ty := .int) (C := RX4) (T := TX4) (N := 7) hx hb hts iG_X4 tyX4 tyX4_ok nmX4 hown hK hP hD hS 0 rfl rfl 6 (by decide) (hts _ w_173) (fun _ h9 => h9) rfl (by decide +kernel) rfl rfl (Nat.le_of_ble_eq_true rfl) dX4_next_67 (fun H locs hP hD hS => ?_)
  have hP : va_P G vwCl [(h0, oX4 b 0 (-1) 0 0 1), (b 2, oX8 bt 0)] H := hP
  have hD : va_D A [(h0, oX4 b 0 (-1) 0 0 1), (b 2, oX8 bt 0)] := hD
  refine lv_iload_n hx hb dX4_next_70 rfl (lv_at hl 0 rfl) ?_
  refine lv_iconst (v := (-1)) hx hb dX4_next_71 (by decide) ?_
  refine lv_icmp_ne (tgt := 83) hx hb dX4_next_72 (by decide) (fun c13 => absurd (by decide) c13) (fun c13 => ?_)
  refine lv_aload_n hx hb dX4_next_75 rfl (lv_at hl 1 rfl) ?_
  refine lv_iconst (v := 0) hx hb dX4_next_76 (by decide) ?_
  refine va_put (D := G) (ci := 4) (v := .int 0) (ty := .int) (C := RX4) (T := TX4) (N := 7) hx hb hts iG_X4 tyX4 tyX4_ok nmX4 hown hK hP hD hS 0 rfl rfl 4 (by decide) (hts _ w_171) (fun _ h9 => h9) rfl (by decide +kernel) rfl rfl (Nat.le_of_ble_eq_true rfl) dX4_next_77 (fun H locs hP hD hS => ?_)
  have hP : va_P G vwCl [(h0, oX4 b 0 (-1) 0 0 1), (b 2, oX8 bt 0)] H := hP
  have hD : va_D A [(h0, oX4 b 0 (-1) 0 0 1), (b 2, oX8 bt 0)] := hD
  refine lv_goto (tgt := 202) hx hb dX4_next_80 (by decide) ?_
  exact hret _ _ _ _ () hP hD hS dX4_next_202 trivial
set_option maxHeartbeats 4000000 in
set_option maxRecDepth 100000 in
theorem f_X4_read (l : Launch) (G : va_G) (cI cJ cZ cB cQ : ClassId) (sz : Nat) (h0 : Nat) (b : Nat → Nat) (bt : Nat → Nat) (bi : Nat → Nat) : CV l yX4_read (wl_ yX4_read cX4_read 2 none) ({ frames := 2, cells := 0, slots := 0, locals := 42 } : Room) G (TY cI cJ cZ cB cQ) [.ref h0] [(h0, oX4 b 0 (-1) 0 0 0), (b 2, oX8 bt 0), (b 3, oX0 bi 0 0 0 0 0 0 0 0 0 0)] sz (fun (u : Unit) => True) (fun _ : Unit => [(h0, oX4 b 0 (-1) 0 0 1), (b 2, oX8 bt 0), (b 3, oX0 bi 0 0 0 0 0 0 0 0 0 0)]) 0 0 := by
  refine CV.go (cc := cX4_read) (maxL := 2) (ret := none) (by decide) rfl (Nat.le_of_ble_eq_true rfl) ?_
  intro p e s m below meth c A ls Q hBd hret
  obtain ⟨hx, hb, hr, hml, hts, hown, hlk, hnm, hP, hK, hD, hA, hZ, hl⟩ := hBd
  have hown : s.vm.findClass RX4 = some m.cls := hown
  have hl : lv_has ls 2 [(0, .ref h0)] := hl
  have hS : va_S A s.heap s.heap [] := va_S.rf
  refine lv_aload_n hx hb dX4_read_0 rfl (lv_at hl 0 rfl) ?_
  refine va_get (D := G) (ci := 4) (v := .ref (b 3)) (C := RX4) (T := TX4) (N := 7) hx hb hts iG_X4 hown hK hP 0 rfl rfl 3 (by decide) (hts _ w_169) (fun _ h9 => h9) rfl dX4_read_1 ?_
  refine k_v (wc := [(b 3, oX0 bi 0 0 0 0 0 0 0 0 0 0)]) (wr := [(h0, oX4 b 0 (-1) 0 0 0), (b 2, oX8 bt 0)]) hP hD hS hA [2] [0, 1] rfl rfl rfl (by decide) (va_runVN (As := []) (rest := []) ⟨hx, hb, hml, hown, hts⟩ (f_X0_clear l G cI cJ cZ cB cQ _ (b 3) bi) ⟨va_cnB (host := "WidowRoads") 0 hts (gW w_408) rfl rfl rfl (nz_nw hZ nw_405 rfl) (hts _ w_4) hd_X0_clear ⟨Nat.le_of_ble_eq_true rfl, Nat.le_of_ble_eq_true rfl⟩, (hts _ w_407), (hts _ wp_2)⟩ (mV hK hZ hP hD [2] rfl rfl [] 2 0 rfl rfl) rfl rfl hl.1 rfl (lv_room (Nat.le_of_ble_eq_true rfl)) dX4_read_4 ⟨Nat.le_of_ble_eq_true rfl, Nat.le_of_ble_eq_true rfl⟩) (fun u2 H locs hw3 hP hD hS => ?_)
  have hP : va_P G vwCl [(h0, oX4 b 0 (-1) 0 0 0), (b 2, oX8 bt 0), (b 3, oX0 bi 0 0 0 0 0 0 0 0 0 0)] H := hP
  have hD : va_D A [(h0, oX4 b 0 (-1) 0 0 0), (b 2, oX8 bt 0), (b 3, oX0 bi 0 0 0 0 0 0 0 0 0 0)] := hD
  refine lv_aload_n hx hb dX4_read_7 rfl (lv_at hl 0 rfl) ?_
  refine lv_iconst (v := 0) hx hb dX4_read_8 (by decide) ?_
  refine va_put (D := G) (ci := 4) (v := .int 0) (ty := .int) (C := RX4) (T := TX4) (N := 7) hx hb hts iG_X4 tyX4 tyX4_ok nmX4 hown hK hP hD hS 0 rfl rfl 0 (by decide) (hts _ w_163) (fun _ h9 => h9) rfl (by decide +kernel) rfl rfl (Nat.le_of_ble_eq_true rfl) dX4_read_9 (fun H locs hP hD hS => ?_)
  have hP : va_P G vwCl [(h0, oX4 b 0 (-1) 0 0 0), (b 2, oX8 bt 0), (b 3, oX0 bi 0 0 0 0 0 0 0 0 0 0)] H := hP
  have hD : va_D A [(h0, oX4 b 0 (-1) 0 0 0), (b 2, oX8 bt 0), (b 3, oX0 bi 0 0 0 0 0 0 0 0 0 0)] := hD
  refine lv_aload_n hx hb dX4_read_12 rfl (lv_at hl 0 rfl) ?_
  refine lv_iconst (v := (-1)) hx hb dX4_read_13 (by decide) ?_
  refine va_put (D := G) (ci := 4) (v := .int (-1)) (ty := .int) (C := RX4) (T := TX4) (N := 7) hx hb hts iG_X4 tyX4 tyX4_ok nmX4 hown hK hP hD hS 0 rfl rfl 1 (by decide) (hts _ w_165) (fun _ h9 => h9) rfl (by decide +kernel) rfl rfl (Nat.le_of_ble_eq_true rfl) dX4_read_14 (fun H locs hP hD hS => ?_)
  have hP : va_P G vwCl [(h0, oX4 b 0 (-1) 0 0 0), (b 2, oX8 bt 0), (b 3, oX0 bi 0 0 0 0 0 0 0 0 0 0)] H := hP
  have hD : va_D A [(h0, oX4 b 0 (-1) 0 0 0), (b 2, oX8 bt 0), (b 3, oX0 bi 0 0 0 0 0 0 0 0 0 0)] := hD
  refine lv_aload_n hx hb dX4_read_17 rfl (lv_at hl 0 rfl) ?_
  refine lv_iconst (v := 0) hx hb dX4_read_18 (by decide) ?_
  refine va_put (D := G) (ci := 4) (v := .int 0) (ty := .int) (C := RX4) (T := TX4) (N := 7) hx hb hts iG_X4 tyX4 tyX4_ok nmX4 hown hK hP hD hS 0 rfl rfl 6 (by decide) (hts _ w_173) (fun _ h9 => h9) rfl (by decide +kernel) rfl rfl (Nat.le_of_ble_eq_true rfl) dX4_read_19 (fun H locs hP hD hS => ?_)
  have hP : va_P G vwCl [(h0, oX4 b 0 (-1) 0 0 0), (b 2, oX8 bt 0), (b 3, oX0 bi 0 0 0 0 0 0 0 0 0 0)] H := hP
  have hD : va_D A [(h0, oX4 b 0 (-1) 0 0 0), (b 2, oX8 bt 0), (b 3, oX0 bi 0 0 0 0 0 0 0 0 0 0)] := hD
  refine lv_aload_n hx hb dX4_read_22 rfl (lv_at hl 0 rfl) ?_
  refine k_v (wc := [(h0, oX4 b 0 (-1) 0 0 0), (b 2, oX8 bt 0)]) (wr := [(b 3, oX0 bi 0 0 0 0 0 0 0 0 0 0)]) hP hD hS hA [0, 1] [2] rfl rfl rfl (by decide) (va_runV (As := []) (rest := []) ⟨hx, hb, hml, hown, hts⟩ (f_X4_next l G cI cJ cZ cB cQ _ h0 b bt) (cwV 0 hts (gV w_409 w_411 wp_3 w_2 w_412) rfl rfl rfl ⟨rfl, hd_X4_next⟩ ⟨Nat.le_of_ble_eq_true rfl, Nat.le_of_ble_eq_true rfl⟩) (mV hK hZ hP hD [0, 1] rfl rfl [] 0 4 rfl rfl) rfl rfl hl.1 rfl (lv_room (Nat.le_of_ble_eq_true rfl)) dX4_read_23 ⟨Nat.le_of_ble_eq_true rfl, Nat.le_of_ble_eq_true rfl⟩) (fun u5 H locs hw6 hP hD hS => ?_)
  have hP : va_P G vwCl [(b 3, oX0 bi 0 0 0 0 0 0 0 0 0 0), (h0, oX4 b 0 (-1) 0 0 1), (b 2, oX8 bt 0)] H := hP
  have hD : va_D A [(b 3, oX0 bi 0 0 0 0 0 0 0 0 0 0), (h0, oX4 b 0 (-1) 0 0 1), (b 2, oX8 bt 0)] := hD
  refine lv_iconst (v := 0) hx hb dX4_read_26 (by decide) ?_
  refine lv_istore_n (lv' := [(1, .int 0), (0, .ref h0)]) hx hb dX4_read_27 rfl hl (by decide) rfl (fun ls hl => ?_)
  refine lv_iload_n hx hb dX4_read_28 rfl (lv_at hl 0 rfl) ?_
  refine lv_sipush (v := 900) hx hb dX4_read_29 (by decide) ?_
  refine lv_icmp_gt (tgt := 133) hx hb dX4_read_32 (by decide) (fun c7 => absurd c7 (by decide)) (fun c7 => ?_)
  refine lv_aload_n hx hb dX4_read_35 rfl (lv_at hl 1 rfl) ?_
  refine va_get (D := G) (ci := 4) (v := .int 0) (C := RX4) (T := TX4) (N := 7) hx hb hts iG_X4 hown hK hP 1 rfl rfl 0 (by decide) (hts _ w_163) (fun _ h9 => h9) rfl dX4_read_36 ?_
  refine lv_if_ne (tgt := 133) hx hb dX4_read_39 (by decide) (fun c8 => absurd (by decide) c8) (fun c8 => ?_)
  refine lv_aload_n hx hb dX4_read_42 rfl (lv_at hl 1 rfl) ?_
  refine va_get (D := G) (ci := 4) (v := .int 0) (C := RX4) (T := TX4) (N := 7) hx hb hts iG_X4 hown hK hP 1 rfl rfl 4 (by decide) (hts _ w_171) (fun _ h9 => h9) rfl dX4_read_43 ?_
  refine lv_if_eq (tgt := 133) hx hb dX4_read_46 (by decide) (fun c9 => ?_) (fun c9 => absurd (by decide) c9)
  exact hret _ _ _ _ () (hP.sub (ws' := [(h0, oX4 b 0 (-1) 0 0 1), (b 2, oX8 bt 0), (b 3, oX0 bi 0 0 0 0 0 0 0 0 0 0)]) [1, 2, 0] rfl) (hD.sub (ws' := [(h0, oX4 b 0 (-1) 0 0 1), (b 2, oX8 bt 0), (b 3, oX0 bi 0 0 0 0 0 0 0 0 0 0)]) [1, 2, 0] rfl rfl) hS dX4_read_133 trivial
set_option maxHeartbeats 4000000 in
set_option maxRecDepth 100000 in
theorem f_X5_empty (l : Launch) (G : va_G) (cI cJ cZ cB cQ : ClassId) (sz : Nat) (h0 : Nat) (b : Nat → Nat) (p0 : Int32) (h1 : 0 ≤ p0.toInt) (h2 : p0.toInt ≤ 3) : CI l yX5_empty (wl_ yX5_empty cX5_empty 2 (some .boolean)) ({ frames := 0, cells := 0, slots := 0, locals := 0 } : Room) G (TY cI cJ cZ cB cQ) [.ref h0, .int p0] [(h0, oX5 b), (b 1, .inl (cZ, 4, .inl (fun _ => 0)))] sz (fun (r : Int32) (u : Unit) => r = 1) (fun _ : Unit => [(h0, oX5 b), (b 1, .inl (cZ, 4, .inl (fun _ => 0)))]) 0 0 := by
  refine CI.goz (cc := cX5_empty) (maxL := 2) (ret := (some .boolean)) (by decide) rfl (Nat.le_of_ble_eq_true rfl) ?_
  intro p e s m below meth c A ls Q hBd hret
  obtain ⟨hx, hb, hr, hml, hts, hown, hlk, hnm, hP, hK, hD, hA, hZ, hl⟩ := hBd
  have hown : s.vm.findClass RX5 = some m.cls := hown
  have hl : lv_has ls 2 [(0, .ref h0), (1, .int p0)] := hl
  have hS : va_S A s.heap s.heap [] := va_S.rf
  refine lv_aload_n hx hb dX5_empty_0 rfl (lv_at hl 0 rfl) ?_
  refine va_get (D := G) (ci := 5) (v := .ref (b 1)) (C := RX5) (T := TX5) (N := 4) hx hb hts iG_X5 hown hK hP 0 rfl rfl 1 (by decide) (hts _ w_323) (fun _ h9 => h9) rfl dX5_empty_1 ?_
  refine lv_iload_n hx hb dX5_empty_4 rfl (lv_at hl 1 rfl) ?_
  refine va_zald hx hb hK hP 1 2 rfl rfl (ix_in rfl (by omega) (by omega)) dX5_empty_5 ?_
  refine W.eq (g2 := F0 m 6 ls [.int 0]) rfl ?_
  refine lv_if_ne (tgt := 13) hx hb dX5_empty_6 (by decide) (fun c1 => absurd (by decide) c1) (fun c1 => ?_)
  refine lv_iconst (v := 1) hx hb dX5_empty_9 (by decide) ?_
  refine lv_goto (tgt := 14) hx hb dX5_empty_10 (by decide) ?_
  exact hret _ _ _ _ 1 () hP hD hS dX5_empty_14 rfl rfl
set_option maxHeartbeats 4000000 in
set_option maxRecDepth 100000 in
theorem f_X9_oneIf (l : Launch) (G : va_G) (cI cJ cZ cB cQ : ClassId) (sz : Nat) : CI l yX9_oneIf (wl_ yX9_oneIf cX9_oneIf 1 (some .int)) ({ frames := 0, cells := 0, slots := 0, locals := 0 } : Room) G (TY cI cJ cZ cB cQ) [.int 0] [] sz (fun (r : Int32) (u : Unit) => r = 0) (fun _ : Unit => []) 0 0 := by
  refine CI.go (cc := cX9_oneIf) (maxL := 1) (ret := (some .int)) (by decide) rfl (Nat.le_of_ble_eq_true rfl) ?_
  intro p e s m below meth c A ls Q hBd hret
  obtain ⟨hx, hb, hr, hml, hts, hown, hlk, hnm, hP, hK, hD, hA, hZ, hl⟩ := hBd
  have hown : s.vm.findClass RX9 = some m.cls := hown
  have hl : lv_has ls 1 [(0, .int 0)] := hl
  have hS : va_S A s.heap s.heap [] := va_S.rf
  refine lv_iload_n hx hb dX9_oneIf_0 rfl (lv_at hl 0 rfl) ?_
  refine lv_if_eq (tgt := 8) hx hb dX9_oneIf_1 (by decide) (fun c1 => ?_) (fun c1 => absurd (by decide) c1)
  refine lv_iconst (v := 0) hx hb dX9_oneIf_8 (by decide) ?_
  exact hret _ _ _ _ 0 () hP hD hS dX9_oneIf_9 rfl
set_option maxHeartbeats 4000000 in
set_option maxRecDepth 100000 in
theorem f_X5_many (l : Launch) (G : va_G) (cI cJ cZ cB cQ : ClassId) (sz : Nat) (h0 : Nat) (b : Nat → Nat) : CI l yX5_many (wl_ yX5_many cX5_many 3 (some .int)) ({ frames := 1, cells := 0, slots := 0, locals := 20 } : Room) G (TY cI cJ cZ cB cQ) [.ref h0] [(h0, oX5 b), (b 1, .inl (cZ, 4, .inl (fun _ => 0)))] sz (fun (r : Int32) (u : Unit) => r = 0) (fun _ : Unit => [(h0, oX5 b), (b 1, .inl (cZ, 4, .inl (fun _ => 0)))]) 0 0 := by
  refine CI.go (cc := cX5_many) (maxL := 3) (ret := (some .int)) (by decide) rfl (Nat.le_of_ble_eq_true rfl) ?_
  intro p e s m below meth c A ls Q hBd hret
  obtain ⟨hx, hb, hr, hml, hts, hown, hlk, hnm, hP, hK, hD, hA, hZ, hl⟩ := hBd
  have hown : s.vm.findClass RX5 = some m.cls := hown
  have hl : lv_has ls 3 [(0, .ref h0)] := hl
  have hS : va_S A s.heap s.heap [] := va_S.rf
  refine lv_iconst (v := 0) hx hb dX5_many_0 (by decide) ?_
  refine lv_istore_n (lv' := [(1, .int 0), (0, .ref h0)]) hx hb dX5_many_1 rfl hl (by decide) rfl (fun ls hl => ?_)
  refine lv_iconst (v := 0) hx hb dX5_many_2 (by decide) ?_
  refine lv_istore_n (lv' := [(2, .int 0), (1, .int 0), (0, .ref h0)]) hx hb dX5_many_3 rfl hl (by decide) rfl (fun ls hl => ?_)
  have lp1 : ∀ (n2 : Nat) (x3 : Int32), 0 ≤ x3.toInt → x3.toInt ≤ 4 → 4 - x3.toInt < (n2 : Int) → ∀ (H : Heap) (locs : List Loc), va_P G vwCl [(h0, oX5 b), (b 1, .inl (cZ, 4, .inl (fun _ => 0)))] H → va_D A [(h0, oX5 b), (b 1, .inl (cZ, 4, .inl (fun _ => 0)))] → va_S A s.heap H locs → ∀ (ls : Array Slot), lv_has ls 3 [(2, .int x3), (1, .int 0), (0, .ref h0)] → W p l e ({ frames := 1, cells := 0, slots := 0, locals := 20 } : Room) s m ([.ref h0] : List Value).toArray below meth c H locs 0 0 Q (F0 m 4 ls []) := by
    intro n2
    induction n2 with
    | zero =>
      intro x3 f3_0 f3_1 f3_2
      exact absurd f3_2 (by omega)
    | succ n2 ih4 =>
      intro x3 f3_0 f3_1 f3_2 H locs hP hD hS ls hl
      refine lv_iload_n hx hb dX5_many_4 rfl (lv_at hl 0 rfl) ?_
      refine lv_iconst (v := 4) hx hb dX5_many_5 (by decide) ?_
      refine lv_icmp_ge (tgt := 27) hx hb dX5_many_6 (by decide) (fun c5 => ?_) (fun c5 => ?_)
      · have c5 := i_le ki_4 rfl c5
        refine lv_iload_n hx hb dX5_many_27 rfl (lv_at hl 1 rfl) ?_
        exact hret _ _ _ _ 0 () hP hD hS dX5_many_28 rfl
      · have c5 := i_nle ki_4 rfl c5
        refine lv_iload_n hx hb dX5_many_9 rfl (lv_at hl 1 rfl) ?_
        refine lv_aload_n hx hb dX5_many_10 rfl (lv_at hl 2 rfl) ?_
        refine va_get (D := G) (ci := 5) (v := .ref (b 1)) (C := RX5) (T := TX5) (N := 4) hx hb hts iG_X5 hown hK hP 0 rfl rfl 1 (by decide) (hts _ w_323) (fun _ h9 => h9) rfl dX5_many_11 ?_
        refine lv_iload_n hx hb dX5_many_14 rfl (lv_at hl 0 rfl) ?_
        refine va_zald hx hb hK hP 1 2 rfl rfl (ix_in rfl (by omega) (by omega)) dX5_many_15 ?_
        refine W.eq (g2 := F0 m 16 ls [.int 0, .int 0]) rfl ?_
        refine k_i (wc := []) (wr := [(h0, oX5 b), (b 1, .inl (cZ, 4, .inl (fun _ => 0)))]) hP hD hS hA [] [0, 1] rfl rfl rfl (by decide) (va_runSN (As := [.int 0]) (rest := [.int 0]) ⟨hx, hb, hml, hown, hts⟩ (f_X9_oneIf l G cI cJ cZ cB cQ _ ) ⟨va_cnB (host := "WidowRoads") 1 hts (gW w_663) rfl rfl rfl (nz_nw hZ nw_1146 rfl) (hts _ w_1) hd_X9_oneIf ⟨Nat.le_of_ble_eq_true rfl, Nat.le_of_ble_eq_true rfl⟩, (hts _ w_662), trivial⟩ (mS hK hZ hP hD [] rfl rfl [.int 0]) rfl rfl hl.1 rfl (lv_room (Nat.le_of_ble_eq_true rfl)) dX5_many_16 ⟨Nat.le_of_ble_eq_true rfl, Nat.le_of_ble_eq_true rfl⟩) (fun r6 u7 H locs hw8 hP hD hS => ?_)
        try dsimp only at hw8
        have hP : va_P G vwCl [(h0, oX5 b), (b 1, .inl (cZ, 4, .inl (fun _ => 0)))] H := hP
        have hD : va_D A [(h0, oX5 b), (b 1, .inl (cZ, 4, .inl (fun _ => 0)))] := hD
        obtain rfl : r6 = 0 := hw8
        refine lv_iadd hx hb dX5_many_19 ?_
        refine lv_topi (fun v9 ev9 => ?_)
        obtain rfl : v9 = 0 := ev9.trans (by decide)
        refine lv_istore_n (lv' := [(1, .int 0), (2, .int x3), (0, .ref h0)]) hx hb dX5_many_20 rfl hl (by decide) rfl (fun ls hl => ?_)
        obtain ⟨v10, ev10⟩ : ∃ y : Int32, y = x3 + 1 := ⟨_, rfl⟩
        have tv10 : v10.toInt = x3.toInt + 1 := ti_add rfl ki_1 ev10 (by omega) (by omega)
        refine lv_iinc (v := v10) (lv' := [(2, .int v10), (1, .int 0), (0, .ref h0)]) hx hb dX5_many_21 hl (k := 1) rfl (by rw [ev10]; rfl) (by decide) rfl (fun ls hl => ?_)
        refine lv_goto (tgt := 4) hx hb dX5_many_24 (by decide) ?_
        exact ih4 v10 (by omega) (by omega) (by omega) _ _ hP hD hS ls (lv_sub hl [0, 1, 2] rfl)
  exact lp1 5 0 (by rw [ki_0]; decide) (by rw [ki_0]; decide) (by rw [ki_0]; decide) _ _ hP hD hS ls (lv_sub hl [0, 1, 2] rfl)
set_option maxHeartbeats 4000000 in
set_option maxRecDepth 100000 in
theorem f_X5_clear (l : Launch) (G : va_G) (cI cJ cZ cB cQ : ClassId) (sz : Nat) (h0 : Nat) (b : Nat → Nat) (p0 : Int32) (p1 : Int32) (p2 : Int32) (h1 : 0 ≤ p0.toInt) (h2 : p0.toInt ≤ 3) : CV l yX5_clear (wl_ yX5_clear cX5_clear 5 none) ({ frames := 0, cells := 0, slots := 0, locals := 0 } : Room) G (TY cI cJ cZ cB cQ) [.ref h0, .int p0, .int p1, .int p2] [(h0, oX5 b), (b 0, .inl (cJ, 240, .inr (.inl (fun _ => 0)))), (b 1, .inl (cZ, 4, .inl (fun _ => 0))), (b 2, .inl (cI, 4, .inl (fun _ => 0))), (b 3, .inl (cI, 4, .inl (fun _ => 0)))] sz (fun (u : (Nat → Int32) × (Nat → Int32) × (Nat → Int32)) => True) (fun u : (Nat → Int32) × (Nat → Int32) × (Nat → Int32) => [(h0, oX5 b), (b 0, .inl (cJ, 240, .inr (.inl (fun _ => 0)))), (b 1, .inl (cZ, 4, .inl u.1)), (b 2, .inl (cI, 4, .inl u.2.1)), (b 3, .inl (cI, 4, .inl u.2.2))]) 0 0 := by
  refine CV.go (cc := cX5_clear) (maxL := 5) (ret := none) (by decide) rfl (Nat.le_of_ble_eq_true rfl) ?_
  intro p e s m below meth c A ls Q hBd hret
  obtain ⟨hx, hb, hr, hml, hts, hown, hlk, hnm, hP, hK, hD, hA, hZ, hl⟩ := hBd
  have hown : s.vm.findClass RX5 = some m.cls := hown
  have hl : lv_has ls 5 [(0, .ref h0), (1, .int p0), (2, .int p1), (3, .int p2)] := hl
  have hS : va_S A s.heap s.heap [] := va_S.rf
  refine lv_aload_n hx hb dX5_clear_0 rfl (lv_at hl 0 rfl) ?_
  refine va_get (D := G) (ci := 5) (v := .ref (b 1)) (C := RX5) (T := TX5) (N := 4) hx hb hts iG_X5 hown hK hP 0 rfl rfl 1 (by decide) (hts _ w_323) (fun _ h9 => h9) rfl dX5_clear_1 ?_
  refine lv_iload_n hx hb dX5_clear_4 rfl (lv_at hl 1 rfl) ?_
  refine lv_iconst (v := 1) hx hb dX5_clear_5 (by decide) ?_
  refine va_zast hx hb hK hP hD hS 2 2 rfl rfl (ix_in rfl (by omega) (by omega)) dX5_clear_6 (fun H locs hP hD hS => ?_)
  generalize upd (fun _ => 0) p0.toNatClampNeg (vp_nar .boolean 1) = f1 at hP hD
  have hP : va_P G vwCl [(h0, oX5 b), (b 0, .inl (cJ, 240, .inr (.inl (fun _ => 0)))), (b 1, .inl (cZ, 4, .inl f1)), (b 2, .inl (cI, 4, .inl (fun _ => 0))), (b 3, .inl (cI, 4, .inl (fun _ => 0)))] H := hP
  have hD : va_D A [(h0, oX5 b), (b 0, .inl (cJ, 240, .inr (.inl (fun _ => 0)))), (b 1, .inl (cZ, 4, .inl f1)), (b 2, .inl (cI, 4, .inl (fun _ => 0))), (b 3, .inl (cI, 4, .inl (fun _ => 0)))] := hD
  refine lv_aload_n hx hb dX5_clear_7 rfl (lv_at hl 0 rfl) ?_
  refine va_get (D := G) (ci := 5) (v := .ref (b 2)) (C := RX5) (T := TX5) (N := 4) hx hb hts iG_X5 hown hK hP 0 rfl rfl 2 (by decide) (hts _ w_324) (fun _ h9 => h9) rfl dX5_clear_8 ?_
  refine lv_iload_n hx hb dX5_clear_11 rfl (lv_at hl 1 rfl) ?_
  refine lv_iload_n hx hb dX5_clear_12 rfl (lv_at hl 2 rfl) ?_
  refine va_iast hx hb hK hP hD hS 3 0 rfl rfl (ix_in rfl (by omega) (by omega)) dX5_clear_13 (fun H locs hP hD hS => ?_)
  generalize upd (fun _ => 0) p0.toNatClampNeg p1 = f2 at hP hD
  have hP : va_P G vwCl [(h0, oX5 b), (b 0, .inl (cJ, 240, .inr (.inl (fun _ => 0)))), (b 1, .inl (cZ, 4, .inl f1)), (b 2, .inl (cI, 4, .inl f2)), (b 3, .inl (cI, 4, .inl (fun _ => 0)))] H := hP
  have hD : va_D A [(h0, oX5 b), (b 0, .inl (cJ, 240, .inr (.inl (fun _ => 0)))), (b 1, .inl (cZ, 4, .inl f1)), (b 2, .inl (cI, 4, .inl f2)), (b 3, .inl (cI, 4, .inl (fun _ => 0)))] := hD
  refine lv_aload_n hx hb dX5_clear_14 rfl (lv_at hl 0 rfl) ?_
  refine va_get (D := G) (ci := 5) (v := .ref (b 3)) (C := RX5) (T := TX5) (N := 4) hx hb hts iG_X5 hown hK hP 0 rfl rfl 3 (by decide) (hts _ w_326) (fun _ h9 => h9) rfl dX5_clear_15 ?_
  refine lv_iload_n hx hb dX5_clear_18 rfl (lv_at hl 1 rfl) ?_
  refine lv_iload_n hx hb dX5_clear_19 rfl (lv_at hl 3 rfl) ?_
  refine va_iast hx hb hK hP hD hS 4 0 rfl rfl (ix_in rfl (by omega) (by omega)) dX5_clear_20 (fun H locs hP hD hS => ?_)
  generalize upd (fun _ => 0) p0.toNatClampNeg p2 = f3 at hP hD
  have hP : va_P G vwCl [(h0, oX5 b), (b 0, .inl (cJ, 240, .inr (.inl (fun _ => 0)))), (b 1, .inl (cZ, 4, .inl f1)), (b 2, .inl (cI, 4, .inl f2)), (b 3, .inl (cI, 4, .inl f3))] H := hP
  have hD : va_D A [(h0, oX5 b), (b 0, .inl (cJ, 240, .inr (.inl (fun _ => 0)))), (b 1, .inl (cZ, 4, .inl f1)), (b 2, .inl (cI, 4, .inl f2)), (b 3, .inl (cI, 4, .inl f3))] := hD
  refine lv_iconst (v := 0) hx hb dX5_clear_21 (by decide) ?_
  refine lv_istore (lv' := [(4, .int 0), (0, .ref h0), (1, .int p0), (2, .int p1), (3, .int p2)]) hx hb dX5_clear_22 hl (by decide) rfl (fun ls hl => ?_)
  have lp4 : ∀ (n5 : Nat) (x6 : Int32), 0 ≤ x6.toInt → x6.toInt ≤ 60 → 60 - x6.toInt < (n5 : Int) → ∀ (H : Heap) (locs : List Loc), va_P G vwCl [(h0, oX5 b), (b 0, .inl (cJ, 240, .inr (.inl (fun _ => 0)))), (b 1, .inl (cZ, 4, .inl f1)), (b 2, .inl (cI, 4, .inl f2)), (b 3, .inl (cI, 4, .inl f3))] H → va_D A [(h0, oX5 b), (b 0, .inl (cJ, 240, .inr (.inl (fun _ => 0)))), (b 1, .inl (cZ, 4, .inl f1)), (b 2, .inl (cI, 4, .inl f2)), (b 3, .inl (cI, 4, .inl f3))] → va_S A s.heap H locs → ∀ (ls : Array Slot), lv_has ls 5 [(4, .int x6), (0, .ref h0), (1, .int p0), (2, .int p1), (3, .int p2)] → W p l e ({ frames := 0, cells := 0, slots := 0, locals := 0 } : Room) s m ([.ref h0, .int p0, .int p1, .int p2] : List Value).toArray below meth c H locs 0 0 Q (F0 m 24 ls []) := by
    intro n5
    induction n5 with
    | zero =>
      intro x6 f6_0 f6_1 f6_2
      exact absurd f6_2 (by omega)
    | succ n5 ih7 =>
      intro x6 f6_0 f6_1 f6_2 H locs hP hD hS ls hl
      refine lv_iload hx hb dX5_clear_24 (lv_at hl 0 rfl) ?_
      refine lv_bipush (v := 60) hx hb dX5_clear_26 (by decide) ?_
      refine lv_icmp_ge (tgt := 50) hx hb dX5_clear_28 (by decide) (fun c8 => ?_) (fun c8 => ?_)
      · have c8 := i_le ki_60 rfl c8
        exact hret _ _ _ _ (f1, f2, f3) hP hD hS dX5_clear_50 trivial
      · have c8 := i_nle ki_60 rfl c8
        refine lv_aload_n hx hb dX5_clear_31 rfl (lv_at hl 1 rfl) ?_
        refine va_get (D := G) (ci := 5) (v := .ref (b 0)) (C := RX5) (T := TX5) (N := 4) hx hb hts iG_X5 hown hK hP 0 rfl rfl 0 (by decide) (hts _ w_322) (fun _ h9 => h9) rfl dX5_clear_32 ?_
        refine lv_iload_n hx hb dX5_clear_35 rfl (lv_at hl 2 rfl) ?_
        refine lv_bipush (v := 60) hx hb dX5_clear_36 (by decide) ?_
        refine lv_imul hx hb dX5_clear_38 ?_
        refine lv_topi (fun v9 ev9 => ?_)
        have tv9 : v9.toInt = p0.toInt * 60 := ti_mul rfl ki_60 ev9 (by omega) (by omega)
        refine lv_iload hx hb dX5_clear_39 (lv_at hl 0 rfl) ?_
        refine lv_iadd hx hb dX5_clear_41 ?_
        refine lv_topi (fun v10 ev10 => ?_)
        have tv10 : v10.toInt = p0.toInt * 60 + x6.toInt := ti_add tv9 rfl ev10 (by omega) (by omega)
        refine lv_lconst (v := 0) hx hb dX5_clear_42 (by decide) ?_
        refine va_last hx hb hK hP hD hS 1 1 rfl rfl (ix_in tv10 (by omega) (by omega)) dX5_clear_43 (fun H locs hP hD hS => ?_)
        rw [updL_z] at hP hD
        have hP : va_P G vwCl [(h0, oX5 b), (b 0, .inl (cJ, 240, .inr (.inl (fun _ => 0)))), (b 1, .inl (cZ, 4, .inl f1)), (b 2, .inl (cI, 4, .inl f2)), (b 3, .inl (cI, 4, .inl f3))] H := hP
        have hD : va_D A [(h0, oX5 b), (b 0, .inl (cJ, 240, .inr (.inl (fun _ => 0)))), (b 1, .inl (cZ, 4, .inl f1)), (b 2, .inl (cI, 4, .inl f2)), (b 3, .inl (cI, 4, .inl f3))] := hD
        obtain ⟨v11, ev11⟩ : ∃ y : Int32, y = x6 + 1 := ⟨_, rfl⟩
        have tv11 : v11.toInt = x6.toInt + 1 := ti_add rfl ki_1 ev11 (by omega) (by omega)
        refine lv_iinc (v := v11) (lv' := [(4, .int v11), (0, .ref h0), (1, .int p0), (2, .int p1), (3, .int p2)]) hx hb dX5_clear_44 hl (k := 0) rfl (by rw [ev11]; rfl) (by decide) rfl (fun ls hl => ?_)
        refine lv_goto (tgt := 24) hx hb dX5_clear_47 (by decide) ?_
        exact ih7 v11 (by omega) (by omega) (by omega) _ _ hP hD hS ls (lv_sub hl [0, 1, 2, 3, 4] rfl)
  exact lp4 61 0 (by rw [ki_0]; decide) (by rw [ki_0]; decide) (by rw [ki_0]; decide) _ _ hP hD hS ls (lv_sub hl [0, 1, 2, 3, 4] rfl)
