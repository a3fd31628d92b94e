theorem dX10_advance_0 : decode cX10_advance 0 = .ok (.aload_n 0, 1) := by decide +kernel
theorem dX10_advance_1 : decode cX10_advance 1 = .ok (.aload_n 0, 1) := by decide +kernel
theorem dX10_advance_2 : decode cX10_advance 2 = .ok (.getfield 129, 3) := by decide +kernel
theorem dX10_advance_5 : decode cX10_advance 5 = .ok (.invokevirtual 132, 3) := by decide +kernel
theorem dX10_advance_8 : decode cX10_advance 8 = .ok (.bipush 32, 2) := by decide +kernel
theorem dX10_advance_10 : decode cX10_advance 10 = .ok (.if_icmp .eq 16, 3) := by decide +kernel
theorem dX10_advance_13 : decode cX10_advance 13 = .ok (.aload_n 0, 1) := by decide +kernel
theorem dX10_advance_14 : decode cX10_advance 14 = .ok (.aload_n 0, 1) := by decide +kernel
theorem dX10_advance_15 : decode cX10_advance 15 = .ok (.getfield 129, 3) := by decide +kernel
theorem dX10_advance_18 : decode cX10_advance 18 = .ok (.invokevirtual 132, 3) := by decide +kernel
theorem dX10_advance_21 : decode cX10_advance 21 = .ok (.bipush 10, 2) := by decide +kernel
theorem dX10_advance_23 : decode cX10_advance 23 = .ok (.if_icmp .ne 16, 3) := by decide +kernel
theorem dX10_advance_39 : decode cX10_advance 39 = .ok (.aload_n 0, 1) := by decide +kernel
theorem dX10_advance_40 : decode cX10_advance 40 = .ok (.aload_n 0, 1) := by decide +kernel
theorem dX10_advance_41 : decode cX10_advance 41 = .ok (.getfield 129, 3) := by decide +kernel
theorem dX10_advance_44 : decode cX10_advance 44 = .ok (.putfield 136, 3) := by decide +kernel
theorem dX10_advance_47 : decode cX10_advance 47 = .ok (.aload_n 0, 1) := by decide +kernel
theorem dX10_advance_48 : decode cX10_advance 48 = .ok (.aload_n 0, 1) := by decide +kernel
theorem dX10_advance_49 : decode cX10_advance 49 = .ok (.getfield 129, 3) := by decide +kernel
theorem dX10_advance_52 : decode cX10_advance 52 = .ok (.invokevirtual 132, 3) := by decide +kernel
theorem dX10_advance_55 : decode cX10_advance 55 = .ok (.istore_n 1, 1) := by decide +kernel
theorem dX10_advance_56 : decode cX10_advance 56 = .ok (.iload_n 1, 1) := by decide +kernel
theorem dX10_advance_57 : decode cX10_advance 57 = .ok (.iconst (-1), 1) := by decide +kernel
theorem dX10_advance_58 : decode cX10_advance 58 = .ok (.if_icmp .ne 11, 3) := by decide +kernel
theorem dX10_advance_61 : decode cX10_advance 61 = .ok (.aload_n 0, 1) := by decide +kernel
theorem dX10_advance_62 : decode cX10_advance 62 = .ok (.iconst 0, 1) := by decide +kernel
theorem dX10_advance_63 : decode cX10_advance 63 = .ok (.putfield 139, 3) := by decide +kernel
theorem dX10_advance_66 : decode cX10_advance 66 = .ok (.goto 173, 3) := by decide +kernel
theorem dX10_advance_239 : decode cX10_advance 239 = .ok (.return_, 1) := by decide +kernel
theorem dX10_allWidows_0 : decode cX10_allWidows 0 = .ok (.iconst 1, 1) := by decide +kernel
theorem dX10_allWidows_1 : decode cX10_allWidows 1 = .ok (.aload_n 0, 1) := by decide +kernel
theorem dX10_allWidows_2 : decode cX10_allWidows 2 = .ok (.invokevirtual 110, 3) := by decide +kernel
theorem dX10_allWidows_5 : decode cX10_allWidows 5 = .ok (.ishl, 1) := by decide +kernel
theorem dX10_allWidows_6 : decode cX10_allWidows 6 = .ok (.iconst 1, 1) := by decide +kernel
theorem dX10_allWidows_7 : decode cX10_allWidows 7 = .ok (.isub, 1) := by decide +kernel
theorem dX10_allWidows_8 : decode cX10_allWidows 8 = .ok (.ireturn, 1) := by decide +kernel
theorem dX10_areTwo_0 : decode cX10_areTwo 0 = .ok (.aload_n 0, 1) := by decide +kernel
theorem dX10_areTwo_1 : decode cX10_areTwo 1 = .ok (.iload_n 1, 1) := by decide +kernel
theorem dX10_areTwo_2 : decode cX10_areTwo 2 = .ok (.i2l, 1) := by decide +kernel
theorem dX10_areTwo_3 : decode cX10_areTwo 3 = .ok (.invokevirtual 261, 3) := by decide +kernel
theorem dX10_areTwo_6 : decode cX10_areTwo 6 = .ok (.ifCond .eq 21, 3) := by decide +kernel
theorem dX10_areTwo_27 : decode cX10_areTwo 27 = .ok (.iconst 0, 1) := by decide +kernel
theorem dX10_areTwo_28 : decode cX10_areTwo 28 = .ok (.ireturn, 1) := by decide +kernel
theorem dX10_asItIs_0 : decode cX10_asItIs 0 = .ok (.aload_n 0, 1) := by decide +kernel
theorem dX10_asItIs_1 : decode cX10_asItIs 1 = .ok (.aload_n 0, 1) := by decide +kernel
theorem dX10_asItIs_2 : decode cX10_asItIs 2 = .ok (.getfield 9, 3) := by decide +kernel
theorem dX10_asItIs_5 : decode cX10_asItIs 5 = .ok (.iconst 1, 1) := by decide +kernel
theorem dX10_asItIs_6 : decode cX10_asItIs 6 = .ok (.iaload, 1) := by decide +kernel
theorem dX10_asItIs_7 : decode cX10_asItIs 7 = .ok (.putfield 270, 3) := by decide +kernel
theorem dX10_asItIs_10 : decode cX10_asItIs 10 = .ok (.aload_n 0, 1) := by decide +kernel
theorem dX10_asItIs_11 : decode cX10_asItIs 11 = .ok (.aload_n 0, 1) := by decide +kernel
theorem dX10_asItIs_12 : decode cX10_asItIs 12 = .ok (.invokevirtual 273, 3) := by decide +kernel
theorem dX10_asItIs_15 : decode cX10_asItIs 15 = .ok (.putfield 276, 3) := by decide +kernel
theorem dX10_asItIs_18 : decode cX10_asItIs 18 = .ok (.aload_n 0, 1) := by decide +kernel
theorem dX10_asItIs_19 : decode cX10_asItIs 19 = .ok (.iconst (-1), 1) := by decide +kernel
theorem dX10_asItIs_20 : decode cX10_asItIs 20 = .ok (.putfield 279, 3) := by decide +kernel
theorem dX10_asItIs_23 : decode cX10_asItIs 23 = .ok (.iconst 0, 1) := by decide +kernel
theorem dX10_asItIs_24 : decode cX10_asItIs 24 = .ok (.istore_n 1, 1) := by decide +kernel
theorem dX10_asItIs_25 : decode cX10_asItIs 25 = .ok (.iload_n 1, 1) := by decide +kernel
theorem dX10_asItIs_26 : decode cX10_asItIs 26 = .ok (.bipush 80, 2) := by decide +kernel
theorem dX10_asItIs_28 : decode cX10_asItIs 28 = .ok (.if_icmp .ge 16, 3) := by decide +kernel
theorem dX10_asItIs_31 : decode cX10_asItIs 31 = .ok (.aload_n 0, 1) := by decide +kernel
theorem dX10_asItIs_32 : decode cX10_asItIs 32 = .ok (.getfield 34, 3) := by decide +kernel
theorem dX10_asItIs_35 : decode cX10_asItIs 35 = .ok (.iload_n 1, 1) := by decide +kernel
theorem dX10_asItIs_36 : decode cX10_asItIs 36 = .ok (.iconst 0, 1) := by decide +kernel
theorem dX10_asItIs_37 : decode cX10_asItIs 37 = .ok (.bastore, 1) := by decide +kernel
theorem dX10_asItIs_38 : decode cX10_asItIs 38 = .ok (.iinc 1 1, 3) := by decide +kernel
theorem dX10_asItIs_41 : decode cX10_asItIs 41 = .ok (.goto (-16), 3) := by decide +kernel
theorem dX10_asItIs_44 : decode cX10_asItIs 44 = .ok (.iconst 0, 1) := by decide +kernel
theorem dX10_asItIs_45 : decode cX10_asItIs 45 = .ok (.istore_n 1, 1) := by decide +kernel
theorem dX10_asItIs_46 : decode cX10_asItIs 46 = .ok (.iload_n 1, 1) := by decide +kernel
theorem dX10_asItIs_47 : decode cX10_asItIs 47 = .ok (.aload_n 0, 1) := by decide +kernel
theorem dX10_asItIs_48 : decode cX10_asItIs 48 = .ok (.getfield 9, 3) := by decide +kernel
theorem dX10_asItIs_51 : decode cX10_asItIs 51 = .ok (.iconst 5, 1) := by decide +kernel
theorem dX10_asItIs_52 : decode cX10_asItIs 52 = .ok (.iaload, 1) := by decide +kernel
theorem dX10_asItIs_53 : decode cX10_asItIs 53 = .ok (.if_icmp .ge 24, 3) := by decide +kernel
theorem dX10_asItIs_77 : decode cX10_asItIs 77 = .ok (.iconst 0, 1) := by decide +kernel
theorem dX10_asItIs_78 : decode cX10_asItIs 78 = .ok (.istore_n 1, 1) := by decide +kernel
theorem dX10_asItIs_79 : decode cX10_asItIs 79 = .ok (.iload_n 1, 1) := by decide +kernel
theorem dX10_asItIs_80 : decode cX10_asItIs 80 = .ok (.aload_n 0, 1) := by decide +kernel
theorem dX10_asItIs_81 : decode cX10_asItIs 81 = .ok (.getfield 9, 3) := by decide +kernel
theorem dX10_asItIs_84 : decode cX10_asItIs 84 = .ok (.bipush 8, 2) := by decide +kernel
theorem dX10_asItIs_86 : decode cX10_asItIs 86 = .ok (.iaload, 1) := by decide +kernel
theorem dX10_asItIs_87 : decode cX10_asItIs 87 = .ok (.if_icmp .ge 54, 3) := by decide +kernel
theorem dX10_asItIs_141 : decode cX10_asItIs 141 = .ok (.iconst 0, 1) := by decide +kernel
theorem dX10_asItIs_142 : decode cX10_asItIs 142 = .ok (.istore_n 1, 1) := by decide +kernel
theorem dX10_asItIs_143 : decode cX10_asItIs 143 = .ok (.iload_n 1, 1) := by decide +kernel
theorem dX10_asItIs_144 : decode cX10_asItIs 144 = .ok (.bipush 7, 2) := by decide +kernel
theorem dX10_asItIs_146 : decode cX10_asItIs 146 = .ok (.if_icmp .ge 21, 3) := by decide +kernel
theorem dX10_asItIs_149 : decode cX10_asItIs 149 = .ok (.aload_n 0, 1) := by decide +kernel
theorem dX10_asItIs_150 : decode cX10_asItIs 150 = .ok (.getfield 37, 3) := by decide +kernel
theorem dX10_asItIs_153 : decode cX10_asItIs 153 = .ok (.iload_n 1, 1) := by decide +kernel
theorem dX10_asItIs_154 : decode cX10_asItIs 154 = .ok (.aload_n 0, 1) := by decide +kernel
theorem dX10_asItIs_155 : decode cX10_asItIs 155 = .ok (.iload_n 1, 1) := by decide +kernel
theorem dX10_asItIs_156 : decode cX10_asItIs 156 = .ok (.iconst 1, 1) := by decide +kernel
theorem dX10_asItIs_157 : decode cX10_asItIs 157 = .ok (.invokevirtual 267, 3) := by decide +kernel
theorem dX10_asItIs_160 : decode cX10_asItIs 160 = .ok (.iastore, 1) := by decide +kernel
theorem dX10_asItIs_161 : decode cX10_asItIs 161 = .ok (.iinc 1 1, 3) := by decide +kernel
theorem dX10_asItIs_164 : decode cX10_asItIs 164 = .ok (.goto (-21), 3) := by decide +kernel
theorem dX10_asItIs_167 : decode cX10_asItIs 167 = .ok (.return_, 1) := by decide +kernel
theorem dX10_askSeen_0 : decode cX10_askSeen 0 = .ok (.iload_n 1, 1) := by decide +kernel
theorem dX10_askSeen_1 : decode cX10_askSeen 1 = .ok (.invokestatic 422, 3) := by decide +kernel
theorem dX10_askSeen_4 : decode cX10_askSeen 4 = .ok (.ifCond .eq 10, 3) := by decide +kernel
theorem dX10_askSeen_7 : decode cX10_askSeen 7 = .ok (.aload_n 0, 1) := by decide +kernel
theorem dX10_askSeen_8 : decode cX10_askSeen 8 = .ok (.invokevirtual 114, 3) := by decide +kernel
theorem dX10_askSeen_11 : decode cX10_askSeen 11 = .ok (.ifCond .ne 6, 3) := by decide +kernel
theorem dX10_askSeen_14 : decode cX10_askSeen 14 = .ok (.bipush (-2), 2) := by decide +kernel
theorem dX10_askSeen_16 : decode cX10_askSeen 16 = .ok (.ireturn, 1) := by decide +kernel
theorem dX10_askSeen__0 : decode cX10_askSeen_ 0 = .ok (.aload_n 0, 1) := by decide +kernel
theorem dX10_askSeen__1 : decode cX10_askSeen_ 1 = .ok (.iload_n 2, 1) := by decide +kernel
theorem dX10_askSeen__2 : decode cX10_askSeen_ 2 = .ok (.i2l, 1) := by decide +kernel
theorem dX10_askSeen__3 : decode cX10_askSeen_ 3 = .ok (.invokevirtual 261, 3) := by decide +kernel
theorem dX10_askSeen__6 : decode cX10_askSeen_ 6 = .ok (.ifCond .eq 11, 3) := by decide +kernel
theorem dX10_askSeen__17 : decode cX10_askSeen_ 17 = .ok (.bipush (-2), 2) := by decide +kernel
theorem dX10_askSeen__19 : decode cX10_askSeen_ 19 = .ok (.ireturn, 1) := by decide +kernel
theorem dX10_asksCell_0 : decode cX10_asksCell 0 = .ok (.aload_n 0, 1) := by decide +kernel
theorem dX10_asksCell_1 : decode cX10_asksCell 1 = .ok (.invokevirtual 335, 3) := by decide +kernel
theorem dX10_asksCell_4 : decode cX10_asksCell 4 = .ok (.pop, 1) := by decide +kernel
theorem dX10_asksCell_5 : decode cX10_asksCell 5 = .ok (.aload_n 0, 1) := by decide +kernel
theorem dX10_asksCell_6 : decode cX10_asksCell 6 = .ok (.iload_n 1, 1) := by decide +kernel
theorem dX10_asksCell_7 : decode cX10_asksCell 7 = .ok (.i2l, 1) := by decide +kernel
theorem dX10_asksCell_8 : decode cX10_asksCell 8 = .ok (.invokevirtual 310, 3) := by decide +kernel
theorem dX10_asksCell_11 : decode cX10_asksCell 11 = .ok (.ireturn, 1) := by decide +kernel
theorem dX10_asksColony_0 : decode cX10_asksColony 0 = .ok (.aload_n 0, 1) := by decide +kernel
theorem dX10_asksColony_1 : decode cX10_asksColony 1 = .ok (.invokevirtual 329, 3) := by decide +kernel
theorem dX10_asksColony_4 : decode cX10_asksColony 4 = .ok (.aload_n 0, 1) := by decide +kernel
theorem dX10_asksColony_5 : decode cX10_asksColony 5 = .ok (.invokevirtual 332, 3) := by decide +kernel
theorem dX10_asksColony_8 : decode cX10_asksColony 8 = .ok (.aload_n 0, 1) := by decide +kernel
theorem dX10_asksColony_9 : decode cX10_asksColony 9 = .ok (.invokevirtual 114, 3) := by decide +kernel
theorem dX10_asksColony_12 : decode cX10_asksColony 12 = .ok (.ireturn, 1) := by decide +kernel
theorem dX10_asksWidow_0 : decode cX10_asksWidow 0 = .ok (.aload_n 0, 1) := by decide +kernel
theorem dX10_asksWidow_1 : decode cX10_asksWidow 1 = .ok (.invokevirtual 335, 3) := by decide +kernel
theorem dX10_asksWidow_4 : decode cX10_asksWidow 4 = .ok (.pop, 1) := by decide +kernel
theorem dX10_asksWidow_5 : decode cX10_asksWidow 5 = .ok (.aload_n 0, 1) := by decide +kernel
theorem dX10_asksWidow_6 : decode cX10_asksWidow 6 = .ok (.iload_n 1, 1) := by decide +kernel
theorem dX10_asksWidow_7 : decode cX10_asksWidow 7 = .ok (.i2l, 1) := by decide +kernel
theorem dX10_asksWidow_8 : decode cX10_asksWidow 8 = .ok (.invokevirtual 261, 3) := by decide +kernel
theorem dX10_asksWidow_11 : decode cX10_asksWidow 11 = .ok (.ireturn, 1) := by decide +kernel
theorem dX10_asksYear_0 : decode cX10_asksYear 0 = .ok (.aload_n 0, 1) := by decide +kernel
theorem dX10_asksYear_1 : decode cX10_asksYear 1 = .ok (.invokevirtual 335, 3) := by decide +kernel
theorem dX10_asksYear_4 : decode cX10_asksYear 4 = .ok (.pop, 1) := by decide +kernel
theorem dX10_asksYear_5 : decode cX10_asksYear 5 = .ok (.aload_n 0, 1) := by decide +kernel
theorem dX10_asksYear_6 : decode cX10_asksYear 6 = .ok (.iload_n 1, 1) := by decide +kernel
theorem dX10_asksYear_7 : decode cX10_asksYear 7 = .ok (.i2l, 1) := by decide +kernel
theorem dX10_asksYear_8 : decode cX10_asksYear 8 = .ok (.invokevirtual 338, 3) := by decide +kernel
theorem dX10_asksYear_11 : decode cX10_asksYear 11 = .ok (.ireturn, 1) := by decide +kernel
theorem dX10_beginSets_0 : decode cX10_beginSets 0 = .ok (.aload_n 0, 1) := by decide +kernel
theorem dX10_beginSets_1 : decode cX10_beginSets 1 = .ok (.invokevirtual 329, 3) := by decide +kernel
theorem dX10_beginSets_4 : decode cX10_beginSets 4 = .ok (.aload_n 0, 1) := by decide +kernel
theorem dX10_beginSets_5 : decode cX10_beginSets 5 = .ok (.aload_n 0, 1) := by decide +kernel
theorem dX10_beginSets_6 : decode cX10_beginSets 6 = .ok (.getfield 276, 3) := by decide +kernel
theorem dX10_beginSets_9 : decode cX10_beginSets 9 = .ok (.putfield 454, 3) := by decide +kernel
theorem dX10_beginSets_12 : decode cX10_beginSets 12 = .ok (.return_, 1) := by decide +kernel
theorem dX10_goAll_0 : decode cX10_goAll 0 = .ok (.iconst 0, 1) := by decide +kernel
theorem dX10_goAll_1 : decode cX10_goAll 1 = .ok (.istore_n 1, 1) := by decide +kernel
theorem dX10_goAll_2 : decode cX10_goAll 2 = .ok (.iload_n 1, 1) := by decide +kernel
theorem dX10_goAll_3 : decode cX10_goAll 3 = .ok (.bipush 80, 2) := by decide +kernel
theorem dX10_goAll_5 : decode cX10_goAll 5 = .ok (.if_icmp .ge 23, 3) := by decide +kernel
theorem dX10_goAll_8 : decode cX10_goAll 8 = .ok (.aload_n 0, 1) := by decide +kernel
theorem dX10_goAll_9 : decode cX10_goAll 9 = .ok (.getfield 40, 3) := by decide +kernel
theorem dX10_goAll_12 : decode cX10_goAll 12 = .ok (.iload_n 1, 1) := by decide +kernel
theorem dX10_goAll_13 : decode cX10_goAll 13 = .ok (.iconst 0, 1) := by decide +kernel
theorem dX10_goAll_14 : decode cX10_goAll 14 = .ok (.bastore, 1) := by decide +kernel
theorem dX10_goAll_15 : decode cX10_goAll 15 = .ok (.aload_n 0, 1) := by decide +kernel
theorem dX10_goAll_16 : decode cX10_goAll 16 = .ok (.getfield 49, 3) := by decide +kernel
theorem dX10_goAll_19 : decode cX10_goAll 19 = .ok (.iload_n 1, 1) := by decide +kernel
theorem dX10_goAll_20 : decode cX10_goAll 20 = .ok (.iconst 0, 1) := by decide +kernel
theorem dX10_goAll_21 : decode cX10_goAll 21 = .ok (.iastore, 1) := by decide +kernel
theorem dX10_goAll_22 : decode cX10_goAll 22 = .ok (.iinc 1 1, 3) := by decide +kernel
theorem dX10_goAll_25 : decode cX10_goAll 25 = .ok (.goto (-23), 3) := by decide +kernel
theorem dX10_goAll_28 : decode cX10_goAll 28 = .ok (.iconst 0, 1) := by decide +kernel
theorem dX10_goAll_29 : decode cX10_goAll 29 = .ok (.istore_n 1, 1) := by decide +kernel
theorem dX10_goAll_30 : decode cX10_goAll 30 = .ok (.iload_n 1, 1) := by decide +kernel
theorem dX10_goAll_31 : decode cX10_goAll 31 = .ok (.bipush 6, 2) := by decide +kernel
theorem dX10_goAll_33 : decode cX10_goAll 33 = .ok (.if_icmp .ge 31, 3) := by decide +kernel
theorem dX10_goAll_36 : decode cX10_goAll 36 = .ok (.aload_n 0, 1) := by decide +kernel
theorem dX10_goAll_37 : decode cX10_goAll 37 = .ok (.getfield 52, 3) := by decide +kernel
theorem dX10_goAll_40 : decode cX10_goAll 40 = .ok (.iload_n 1, 1) := by decide +kernel
theorem dX10_goAll_41 : decode cX10_goAll 41 = .ok (.aload_n 0, 1) := by decide +kernel
theorem dX10_goAll_42 : decode cX10_goAll 42 = .ok (.getfield 9, 3) := by decide +kernel
theorem dX10_goAll_45 : decode cX10_goAll 45 = .ok (.bipush 22, 2) := by decide +kernel
theorem dX10_goAll_47 : decode cX10_goAll 47 = .ok (.iload_n 1, 1) := by decide +kernel
theorem dX10_goAll_48 : decode cX10_goAll 48 = .ok (.iadd, 1) := by decide +kernel
theorem dX10_goAll_49 : decode cX10_goAll 49 = .ok (.iaload, 1) := by decide +kernel
theorem dX10_goAll_50 : decode cX10_goAll 50 = .ok (.iastore, 1) := by decide +kernel
theorem dX10_goAll_51 : decode cX10_goAll 51 = .ok (.aload_n 0, 1) := by decide +kernel
theorem dX10_goAll_52 : decode cX10_goAll 52 = .ok (.getfield 64, 3) := by decide +kernel
theorem dX10_goAll_55 : decode cX10_goAll 55 = .ok (.iload_n 1, 1) := by decide +kernel
theorem dX10_goAll_56 : decode cX10_goAll 56 = .ok (.iconst 0, 1) := by decide +kernel
theorem dX10_goAll_57 : decode cX10_goAll 57 = .ok (.iastore, 1) := by decide +kernel
theorem dX10_goAll_58 : decode cX10_goAll 58 = .ok (.iinc 1 1, 3) := by decide +kernel
theorem dX10_goAll_61 : decode cX10_goAll 61 = .ok (.goto (-31), 3) := by decide +kernel
theorem dX10_goAll_64 : decode cX10_goAll 64 = .ok (.iconst 0, 1) := by decide +kernel
theorem dX10_goAll_65 : decode cX10_goAll 65 = .ok (.istore_n 1, 1) := by decide +kernel
theorem dX10_goAll_66 : decode cX10_goAll 66 = .ok (.iload_n 1, 1) := by decide +kernel
theorem dX10_goAll_67 : decode cX10_goAll 67 = .ok (.bipush 7, 2) := by decide +kernel
theorem dX10_goAll_69 : decode cX10_goAll 69 = .ok (.if_icmp .ge 16, 3) := by decide +kernel
theorem dX10_goAll_72 : decode cX10_goAll 72 = .ok (.aload_n 0, 1) := by decide +kernel
theorem dX10_goAll_73 : decode cX10_goAll 73 = .ok (.getfield 58, 3) := by decide +kernel
theorem dX10_goAll_76 : decode cX10_goAll 76 = .ok (.iload_n 1, 1) := by decide +kernel
theorem dX10_goAll_77 : decode cX10_goAll 77 = .ok (.iconst (-1), 1) := by decide +kernel
theorem dX10_goAll_78 : decode cX10_goAll 78 = .ok (.iastore, 1) := by decide +kernel
theorem dX10_goAll_79 : decode cX10_goAll 79 = .ok (.iinc 1 1, 3) := by decide +kernel
theorem dX10_goAll_82 : decode cX10_goAll 82 = .ok (.goto (-16), 3) := by decide +kernel
theorem dX10_goAll_85 : decode cX10_goAll 85 = .ok (.iconst 0, 1) := by decide +kernel
theorem dX10_goAll_86 : decode cX10_goAll 86 = .ok (.istore_n 1, 1) := by decide +kernel
theorem dX10_goAll_87 : decode cX10_goAll 87 = .ok (.iload_n 1, 1) := by decide +kernel
theorem dX10_goAll_88 : decode cX10_goAll 88 = .ok (.aload_n 0, 1) := by decide +kernel
theorem dX10_goAll_89 : decode cX10_goAll 89 = .ok (.invokevirtual 118, 3) := by decide +kernel
theorem dX10_goAll_92 : decode cX10_goAll 92 = .ok (.if_icmp .gt 65, 3) := by decide +kernel
theorem dX10_goAll_95 : decode cX10_goAll 95 = .ok (.aload_n 0, 1) := by decide +kernel
theorem dX10_goAll_96 : decode cX10_goAll 96 = .ok (.iload_n 1, 1) := by decide +kernel
theorem dX10_goAll_97 : decode cX10_goAll 97 = .ok (.invokevirtual 320, 3) := by decide +kernel
theorem dX10_goAll_100 : decode cX10_goAll 100 = .ok (.iconst 0, 1) := by decide +kernel
theorem dX10_goAll_101 : decode cX10_goAll 101 = .ok (.istore_n 2, 1) := by decide +kernel
theorem dX10_goAll_102 : decode cX10_goAll 102 = .ok (.iload_n 2, 1) := by decide +kernel
theorem dX10_goAll_103 : decode cX10_goAll 103 = .ok (.aload_n 0, 1) := by decide +kernel
theorem dX10_goAll_104 : decode cX10_goAll 104 = .ok (.invokevirtual 110, 3) := by decide +kernel
theorem dX10_goAll_107 : decode cX10_goAll 107 = .ok (.if_icmp .ge 44, 3) := by decide +kernel
theorem dX10_goAll_151 : decode cX10_goAll 151 = .ok (.iinc 1 1, 3) := by decide +kernel
theorem dX10_goAll_154 : decode cX10_goAll 154 = .ok (.goto (-67), 3) := by decide +kernel
theorem dX10_goAll_157 : decode cX10_goAll 157 = .ok (.return_, 1) := by decide +kernel
theorem dX10_good_0 : decode cX10_good 0 = .ok (.aload_n 0, 1) := by decide +kernel
theorem dX10_good_1 : decode cX10_good 1 = .ok (.getfield 160, 3) := by decide +kernel
theorem dX10_good_4 : decode cX10_good 4 = .ok (.ifCond .ne 7, 3) := by decide +kernel
theorem dX10_good_7 : decode cX10_good 7 = .ok (.iconst 1, 1) := by decide +kernel
theorem dX10_good_8 : decode cX10_good 8 = .ok (.goto 4, 3) := by decide +kernel
theorem dX10_good_12 : decode cX10_good 12 = .ok (.ireturn, 1) := by decide +kernel
theorem dX10_houses_0 : decode cX10_houses 0 = .ok (.aload_n 0, 1) := by decide +kernel
theorem dX10_houses_1 : decode cX10_houses 1 = .ok (.getfield 9, 3) := by decide +kernel
theorem dX10_houses_4 : decode cX10_houses 4 = .ok (.bipush 6, 2) := by decide +kernel
theorem dX10_houses_6 : decode cX10_houses 6 = .ok (.iaload, 1) := by decide +kernel
theorem dX10_houses_7 : decode cX10_houses 7 = .ok (.ireturn, 1) := by decide +kernel
theorem dX10_in_0 : decode cX10_in 0 = .ok (.lload_n 0, 1) := by decide +kernel
theorem dX10_in_1 : decode cX10_in 1 = .ok (.lload_n 2, 1) := by decide +kernel
theorem dX10_in_2 : decode cX10_in 2 = .ok (.lcmp, 1) := by decide +kernel
theorem dX10_in_3 : decode cX10_in 3 = .ok (.ifCond .lt 14, 3) := by decide +kernel
theorem dX10_in_6 : decode cX10_in 6 = .ok (.lload_n 0, 1) := by decide +kernel
theorem dX10_in_7 : decode cX10_in 7 = .ok (.lload 4, 2) := by decide +kernel
theorem dX10_in_9 : decode cX10_in 9 = .ok (.lcmp, 1) := by decide +kernel
theorem dX10_in_10 : decode cX10_in 10 = .ok (.ifCond .gt 7, 3) := by decide +kernel
theorem dX10_in_13 : decode cX10_in 13 = .ok (.iconst 1, 1) := by decide +kernel
theorem dX10_in_14 : decode cX10_in 14 = .ok (.goto 4, 3) := by decide +kernel
theorem dX10_in_17 : decode cX10_in 17 = .ok (.iconst 0, 1) := by decide +kernel
theorem dX10_in_18 : decode cX10_in 18 = .ok (.ireturn, 1) := by decide +kernel
theorem dX10_isCell_0 : decode cX10_isCell 0 = .ok (.aload_n 0, 1) := by decide +kernel
theorem dX10_isCell_1 : decode cX10_isCell 1 = .ok (.invokevirtual 114, 3) := by decide +kernel
theorem dX10_isCell_4 : decode cX10_isCell 4 = .ok (.ifCond .eq 55, 3) := by decide +kernel
theorem dX10_isCell_59 : decode cX10_isCell 59 = .ok (.iconst 0, 1) := by decide +kernel
theorem dX10_isCell_60 : decode cX10_isCell 60 = .ok (.ireturn, 1) := by decide +kernel
theorem dX10_isColony_0 : decode cX10_isColony 0 = .ok (.aload_n 0, 1) := by decide +kernel
theorem dX10_isColony_1 : decode cX10_isColony 1 = .ok (.getfield 9, 3) := by decide +kernel
theorem dX10_isColony_4 : decode cX10_isColony 4 = .ok (.bipush 9, 2) := by decide +kernel
theorem dX10_isColony_6 : decode cX10_isColony 6 = .ok (.iaload, 1) := by decide +kernel
theorem dX10_isColony_7 : decode cX10_isColony 7 = .ok (.ifCond .le 7, 3) := by decide +kernel
theorem dX10_isColony_14 : decode cX10_isColony 14 = .ok (.iconst 0, 1) := by decide +kernel
theorem dX10_isColony_15 : decode cX10_isColony 15 = .ok (.ireturn, 1) := by decide +kernel
theorem dX10_isHouseTold_0 : decode cX10_isHouseTold 0 = .ok (.iload_n 1, 1) := by decide +kernel
theorem dX10_isHouseTold_1 : decode cX10_isHouseTold 1 = .ok (.i2l, 1) := by decide +kernel
theorem dX10_isHouseTold_2 : decode cX10_isHouseTold 2 = .ok (.lconst 0, 1) := by decide +kernel
theorem dX10_isHouseTold_3 : decode cX10_isHouseTold 3 = .ok (.aload_n 0, 1) := by decide +kernel
theorem dX10_isHouseTold_4 : decode cX10_isHouseTold 4 = .ok (.invokevirtual 307, 3) := by decide +kernel
theorem dX10_isHouseTold_7 : decode cX10_isHouseTold 7 = .ok (.iconst 1, 1) := by decide +kernel
theorem dX10_isHouseTold_8 : decode cX10_isHouseTold 8 = .ok (.isub, 1) := by decide +kernel
theorem dX10_isHouseTold_9 : decode cX10_isHouseTold 9 = .ok (.i2l, 1) := by decide +kernel
theorem dX10_isHouseTold_10 : decode cX10_isHouseTold 10 = .ok (.invokestatic 106, 3) := by decide +kernel
theorem dX10_isHouseTold_13 : decode cX10_isHouseTold 13 = .ok (.ireturn, 1) := by decide +kernel
theorem dX10_isSeed_0 : decode cX10_isSeed 0 = .ok (.iload_n 0, 1) := by decide +kernel
theorem dX10_isSeed_1 : decode cX10_isSeed 1 = .ok (.i2l, 1) := by decide +kernel
theorem dX10_isSeed_2 : decode cX10_isSeed 2 = .ok (.lconst 0, 1) := by decide +kernel
theorem dX10_isSeed_3 : decode cX10_isSeed 3 = .ok (.ldc2_w 512, 3) := by decide +kernel
theorem dX10_isSeed_6 : decode cX10_isSeed 6 = .ok (.invokestatic 106, 3) := by decide +kernel
theorem dX10_isSeed_9 : decode cX10_isSeed 9 = .ok (.ireturn, 1) := by decide +kernel
theorem dX10_isSlot_0 : decode cX10_isSlot 0 = .ok (.iload_n 0, 1) := by decide +kernel
theorem dX10_isSlot_1 : decode cX10_isSlot 1 = .ok (.i2l, 1) := by decide +kernel
theorem dX10_isSlot_2 : decode cX10_isSlot 2 = .ok (.lconst 0, 1) := by decide +kernel
theorem dX10_isSlot_3 : decode cX10_isSlot 3 = .ok (.ldc2_w 449, 3) := by decide +kernel
theorem dX10_isSlot_6 : decode cX10_isSlot 6 = .ok (.invokestatic 106, 3) := by decide +kernel
theorem dX10_isSlot_9 : decode cX10_isSlot 9 = .ok (.ireturn, 1) := by decide +kernel
theorem dX10_isWidow_0 : decode cX10_isWidow 0 = .ok (.lload_n 1, 1) := by decide +kernel
theorem dX10_isWidow_1 : decode cX10_isWidow 1 = .ok (.lconst 0, 1) := by decide +kernel
theorem dX10_isWidow_2 : decode cX10_isWidow 2 = .ok (.aload_n 0, 1) := by decide +kernel
theorem dX10_isWidow_3 : decode cX10_isWidow 3 = .ok (.invokevirtual 110, 3) := by decide +kernel
theorem dX10_isWidow_6 : decode cX10_isWidow 6 = .ok (.iconst 1, 1) := by decide +kernel
theorem dX10_isWidow_7 : decode cX10_isWidow 7 = .ok (.isub, 1) := by decide +kernel
theorem dX10_isWidow_8 : decode cX10_isWidow 8 = .ok (.i2l, 1) := by decide +kernel
theorem dX10_isWidow_9 : decode cX10_isWidow 9 = .ok (.invokestatic 106, 3) := by decide +kernel
theorem dX10_isWidow_12 : decode cX10_isWidow 12 = .ok (.ireturn, 1) := by decide +kernel
theorem dX10_isYear_0 : decode cX10_isYear 0 = .ok (.aload_n 0, 1) := by decide +kernel
theorem dX10_isYear_1 : decode cX10_isYear 1 = .ok (.invokevirtual 114, 3) := by decide +kernel
theorem dX10_isYear_4 : decode cX10_isYear 4 = .ok (.ifCond .eq 20, 3) := by decide +kernel
theorem dX10_isYear_24 : decode cX10_isYear 24 = .ok (.iconst 0, 1) := by decide +kernel
theorem dX10_isYear_25 : decode cX10_isYear 25 = .ok (.ireturn, 1) := by decide +kernel
theorem dX10_keepYear_0 : decode cX10_keepYear 0 = .ok (.iconst 0, 1) := by decide +kernel
theorem dX10_keepYear_1 : decode cX10_keepYear 1 = .ok (.istore_n 2, 1) := by decide +kernel
theorem dX10_keepYear_2 : decode cX10_keepYear 2 = .ok (.iload_n 2, 1) := by decide +kernel
theorem dX10_keepYear_3 : decode cX10_keepYear 3 = .ok (.bipush 80, 2) := by decide +kernel
theorem dX10_keepYear_5 : decode cX10_keepYear 5 = .ok (.if_icmp .ge 43, 3) := by decide +kernel
theorem dX10_keepYear_8 : decode cX10_keepYear 8 = .ok (.aload_n 0, 1) := by decide +kernel
theorem dX10_keepYear_9 : decode cX10_keepYear 9 = .ok (.getfield 67, 3) := by decide +kernel
theorem dX10_keepYear_12 : decode cX10_keepYear 12 = .ok (.bipush 80, 2) := by decide +kernel
theorem dX10_keepYear_14 : decode cX10_keepYear 14 = .ok (.iload_n 1, 1) := by decide +kernel
theorem dX10_keepYear_15 : decode cX10_keepYear 15 = .ok (.imul, 1) := by decide +kernel
theorem dX10_keepYear_16 : decode cX10_keepYear 16 = .ok (.iload_n 2, 1) := by decide +kernel
theorem dX10_keepYear_17 : decode cX10_keepYear 17 = .ok (.iadd, 1) := by decide +kernel
theorem dX10_keepYear_18 : decode cX10_keepYear 18 = .ok (.aload_n 0, 1) := by decide +kernel
theorem dX10_keepYear_19 : decode cX10_keepYear 19 = .ok (.getfield 40, 3) := by decide +kernel
theorem dX10_keepYear_22 : decode cX10_keepYear 22 = .ok (.iload_n 2, 1) := by decide +kernel
theorem dX10_keepYear_23 : decode cX10_keepYear 23 = .ok (.baload, 1) := by decide +kernel
theorem dX10_keepYear_24 : decode cX10_keepYear 24 = .ok (.bastore, 1) := by decide +kernel
theorem dX10_keepYear_25 : decode cX10_keepYear 25 = .ok (.aload_n 0, 1) := by decide +kernel
theorem dX10_keepYear_26 : decode cX10_keepYear 26 = .ok (.getfield 70, 3) := by decide +kernel
theorem dX10_keepYear_29 : decode cX10_keepYear 29 = .ok (.bipush 80, 2) := by decide +kernel
theorem dX10_keepYear_31 : decode cX10_keepYear 31 = .ok (.iload_n 1, 1) := by decide +kernel
theorem dX10_keepYear_32 : decode cX10_keepYear 32 = .ok (.imul, 1) := by decide +kernel
theorem dX10_keepYear_33 : decode cX10_keepYear 33 = .ok (.iload_n 2, 1) := by decide +kernel
theorem dX10_keepYear_34 : decode cX10_keepYear 34 = .ok (.iadd, 1) := by decide +kernel
theorem dX10_keepYear_35 : decode cX10_keepYear 35 = .ok (.aload_n 0, 1) := by decide +kernel
theorem dX10_keepYear_36 : decode cX10_keepYear 36 = .ok (.getfield 49, 3) := by decide +kernel
theorem dX10_keepYear_39 : decode cX10_keepYear 39 = .ok (.iload_n 2, 1) := by decide +kernel
theorem dX10_keepYear_40 : decode cX10_keepYear 40 = .ok (.iaload, 1) := by decide +kernel
theorem dX10_keepYear_41 : decode cX10_keepYear 41 = .ok (.iastore, 1) := by decide +kernel
theorem dX10_keepYear_42 : decode cX10_keepYear 42 = .ok (.iinc 2 1, 3) := by decide +kernel
theorem dX10_keepYear_45 : decode cX10_keepYear 45 = .ok (.goto (-43), 3) := by decide +kernel
theorem dX10_keepYear_48 : decode cX10_keepYear 48 = .ok (.iconst 0, 1) := by decide +kernel
theorem dX10_keepYear_49 : decode cX10_keepYear 49 = .ok (.istore_n 2, 1) := by decide +kernel
theorem dX10_keepYear_50 : decode cX10_keepYear 50 = .ok (.iload_n 2, 1) := by decide +kernel
theorem dX10_keepYear_51 : decode cX10_keepYear 51 = .ok (.bipush 6, 2) := by decide +kernel
theorem dX10_keepYear_53 : decode cX10_keepYear 53 = .ok (.if_icmp .ge 26, 3) := by decide +kernel
theorem dX10_keepYear_56 : decode cX10_keepYear 56 = .ok (.aload_n 0, 1) := by decide +kernel
theorem dX10_keepYear_57 : decode cX10_keepYear 57 = .ok (.getfield 73, 3) := by decide +kernel
theorem dX10_keepYear_60 : decode cX10_keepYear 60 = .ok (.bipush 6, 2) := by decide +kernel
theorem dX10_keepYear_62 : decode cX10_keepYear 62 = .ok (.iload_n 1, 1) := by decide +kernel
theorem dX10_keepYear_63 : decode cX10_keepYear 63 = .ok (.imul, 1) := by decide +kernel
theorem dX10_keepYear_64 : decode cX10_keepYear 64 = .ok (.iload_n 2, 1) := by decide +kernel
theorem dX10_keepYear_65 : decode cX10_keepYear 65 = .ok (.iadd, 1) := by decide +kernel
theorem dX10_keepYear_66 : decode cX10_keepYear 66 = .ok (.aload_n 0, 1) := by decide +kernel
theorem dX10_keepYear_67 : decode cX10_keepYear 67 = .ok (.getfield 52, 3) := by decide +kernel
theorem dX10_keepYear_70 : decode cX10_keepYear 70 = .ok (.iload_n 2, 1) := by decide +kernel
theorem dX10_keepYear_71 : decode cX10_keepYear 71 = .ok (.iaload, 1) := by decide +kernel
theorem dX10_keepYear_72 : decode cX10_keepYear 72 = .ok (.iastore, 1) := by decide +kernel
theorem dX10_keepYear_73 : decode cX10_keepYear 73 = .ok (.iinc 2 1, 3) := by decide +kernel
theorem dX10_keepYear_76 : decode cX10_keepYear 76 = .ok (.goto (-26), 3) := by decide +kernel
theorem dX10_keepYear_79 : decode cX10_keepYear 79 = .ok (.return_, 1) := by decide +kernel
theorem dX10_see_0 : decode cX10_see 0 = .ok (.iload_n 1, 1) := by decide +kernel
theorem dX10_see_1 : decode cX10_see 1 = .ok (.aload_n 0, 1) := by decide +kernel
theorem dX10_see_2 : decode cX10_see 2 = .ok (.getfield 126, 3) := by decide +kernel
theorem dX10_see_5 : decode cX10_see 5 = .ok (.if_icmp .ge 16, 3) := by decide +kernel
theorem dX10_see_21 : decode cX10_see 21 = .ok (.iconst (-1), 1) := by decide +kernel
theorem dX10_see_22 : decode cX10_see 22 = .ok (.ireturn, 1) := by decide +kernel
theorem dX10_widowOf_0 : decode cX10_widowOf 0 = .ok (.aload_n 0, 1) := by decide +kernel
theorem dX10_widowOf_1 : decode cX10_widowOf 1 = .ok (.getfield 9, 3) := by decide +kernel
theorem dX10_widowOf_4 : decode cX10_widowOf 4 = .ok (.bipush 28, 2) := by decide +kernel
theorem dX10_widowOf_6 : decode cX10_widowOf 6 = .ok (.bipush 13, 2) := by decide +kernel
theorem dX10_widowOf_8 : decode cX10_widowOf 8 = .ok (.iload_n 1, 1) := by decide +kernel
theorem dX10_widowOf_9 : decode cX10_widowOf 9 = .ok (.imul, 1) := by decide +kernel
theorem dX10_widowOf_10 : decode cX10_widowOf 10 = .ok (.iadd, 1) := by decide +kernel
theorem dX10_widowOf_11 : decode cX10_widowOf 11 = .ok (.iload_n 2, 1) := by decide +kernel
theorem dX10_widowOf_12 : decode cX10_widowOf 12 = .ok (.iadd, 1) := by decide +kernel
theorem dX10_widowOf_13 : decode cX10_widowOf 13 = .ok (.iaload, 1) := by decide +kernel
theorem dX10_widowOf_14 : decode cX10_widowOf 14 = .ok (.ireturn, 1) := by decide +kernel
theorem dX10_widows_0 : decode cX10_widows 0 = .ok (.aload_n 0, 1) := by decide +kernel
theorem dX10_widows_1 : decode cX10_widows 1 = .ok (.getfield 9, 3) := by decide +kernel
theorem dX10_widows_4 : decode cX10_widows 4 = .ok (.bipush 7, 2) := by decide +kernel
theorem dX10_widows_6 : decode cX10_widows 6 = .ok (.iaload, 1) := by decide +kernel
theorem dX10_widows_7 : decode cX10_widows 7 = .ok (.ireturn, 1) := by decide +kernel
theorem dX10_years_0 : decode cX10_years 0 = .ok (.aload_n 0, 1) := by decide +kernel
theorem dX10_years_1 : decode cX10_years 1 = .ok (.getfield 9, 3) := by decide +kernel
theorem dX10_years_4 : decode cX10_years 4 = .ok (.iconst 0, 1) := by decide +kernel
theorem dX10_years_5 : decode cX10_years 5 = .ok (.iaload, 1) := by decide +kernel
theorem dX10_years_6 : decode cX10_years 6 = .ok (.ireturn, 1) := by decide +kernel
set_option maxHeartbeats 4000000 in
set_option maxRecDepth 100000 in
theorem f_X10_in (l : Launch) (G : va_G) (cI cJ cZ cB cQ : ClassId) (sz : Nat) (p0 : Int64) (p1 : Int64) (p2 : Int64) (a0 : Int) (a1 : Int) (a2 : Int) (h0 : p0.toInt = a0) (h1 : p1.toInt = a1) (h2 : p2.toInt = a2) : CI l yX10_in (wl_ yX10_in cX10_in 6 (some .boolean)) ({ frames := 0, cells := 0, slots := 0, locals := 0 } : Room) G (TY cI cJ cZ cB cQ) [.long p0, .long p1, .long p2] [] sz (fun (r : Int32) (u : Unit) => (r = 1 ∧ a1 ≤ a0 ∧ a0 ≤ a2) ∨ (r = 0 ∧ (a0 < a1 ∨ a2 < a0))) (fun _ : Unit => []) 0 0 := by
  refine CI.goz (cc := cX10_in) (maxL := 6) (ret := (some .boolean)) (by decide) rfl (Nat.le_of_ble_eq_true rfl) ?_
  intro p e s m below meth c A ls Q hBd hret
  obtain ⟨hx, hb, hr, hml, hts, hown, hlk, hnm, hP, hK, hD, hA, hZ, hl⟩ := hBd
  have hown : s.vm.findClass RX10 = some m.cls := hown
  have hl : lv_has ls 6 [(0, .long p0), (2, .long p1), (4, .long p2)] := hl
  have hS : va_S A s.heap s.heap [] := va_S.rf
  refine lv_lload_n hx hb dX10_in_0 rfl (lv_at hl 0 rfl) ?_
  refine lv_lload_n hx hb dX10_in_1 rfl (lv_at hl 1 rfl) ?_
  refine W.lcmp hx hb dX10_in_2 ?_
  refine lv_if_lt (tgt := 17) hx hb dX10_in_3 (by decide) (fun c1 => ?_) (fun c1 => ?_)
  · have c1 := c_lt h0 h1 c1
    refine lv_iconst (v := 0) hx hb dX10_in_17 (by decide) ?_
    exact hret _ _ _ _ 0 () hP hD hS dX10_in_18 rfl (Or.inr ⟨rfl, by omega⟩)
  · have c1 := c_nlt h0 h1 c1
    refine lv_lload_n hx hb dX10_in_6 rfl (lv_at hl 0 rfl) ?_
    refine lv_lload hx hb dX10_in_7 (lv_at hl 2 rfl) ?_
    refine W.lcmp hx hb dX10_in_9 ?_
    refine lv_if_gt (tgt := 17) hx hb dX10_in_10 (by decide) (fun c2 => ?_) (fun c2 => ?_)
    · have c2 := c_gt h0 h2 c2
      refine lv_iconst (v := 0) hx hb dX10_in_17 (by decide) ?_
      exact hret _ _ _ _ 0 () hP hD hS dX10_in_18 rfl (Or.inr ⟨rfl, by omega⟩)
    · have c2 := c_ngt h0 h2 c2
      refine lv_iconst (v := 1) hx hb dX10_in_13 (by decide) ?_
      refine lv_goto (tgt := 18) hx hb dX10_in_14 (by decide) ?_
      exact hret _ _ _ _ 1 () hP hD hS dX10_in_18 rfl (Or.inl ⟨rfl, by omega, by omega⟩)
set_option maxHeartbeats 4000000 in
set_option maxRecDepth 100000 in
theorem f_X10_isSlot (l : Launch) (G : va_G) (cI cJ cZ cB cQ : ClassId) (sz : Nat) (p0 : Int32) (a0 : Int) (h0 : p0.toInt = a0) : CI l yX10_isSlot (wl_ yX10_isSlot cX10_isSlot 1 (some .boolean)) ({ frames := 1, cells := 0, slots := 0, locals := 25 } : Room) G (TY cI cJ cZ cB cQ) [.int p0] [] sz (fun (r : Int32) (u : Unit) => (r = 1 ∧ 0 ≤ a0 ∧ a0 ≤ 3) ∨ (r = 0 ∧ (a0 < 0 ∨ 3 < a0))) (fun _ : Unit => []) 0 0 := by
  refine CI.goz (cc := cX10_isSlot) (maxL := 1) (ret := (some .boolean)) (by decide) rfl (Nat.le_of_ble_eq_true rfl) ?_
  intro p e s m below meth c A ls Q hBd hret
  obtain ⟨hx, hb, hr, hml, hts, hown, hlk, hnm, hP, hK, hD, hA, hZ, hl⟩ := hBd
  have hown : s.vm.findClass RX10 = some m.cls := hown
  have hl : lv_has ls 1 [(0, .int p0)] := hl
  have hS : va_S A s.heap s.heap [] := va_S.rf
  refine lv_iload_n hx hb dX10_isSlot_0 rfl (lv_at hl 0 rfl) ?_
  obtain ⟨v1, ev1⟩ : ∃ y : Int64, p0.toInt64 = y := ⟨_, rfl⟩
  have tv1 : v1.toInt = a0 := ti_wide h0 ev1
  refine lv_i2l (v := v1) hx hb dX10_isSlot_1 ev1 ?_
  refine lv_lconst (v := 0) hx hb dX10_isSlot_2 (by decide) ?_
  refine lv_ldc2 (v := 3) hx hb hown (hts _ w_1819) dX10_isSlot_3 ?_
  refine k_i (wc := []) (wr := []) hP hD hS hA [] [] rfl rfl rfl (by decide) (va_runS (As := [.long v1, .long 0, .long 3]) (rest := []) ⟨hx, hb, hml, hown, hts⟩ (f_X10_in l G cI cJ cZ cB cQ _ v1 0 3 a0 0 3 tv1 kl_0 kl_3) (va_cwS 3 hts (gS w_1336 w_1337 w_11 w_1338) rfl rfl rfl hd_X10_in ⟨Nat.le_of_ble_eq_true rfl, Nat.le_of_ble_eq_true rfl⟩) (mS hK hZ hP hD [] rfl rfl [.long v1, .long 0, .long 3]) rfl rfl hl.1 rfl (lv_room (Nat.le_of_ble_eq_true rfl)) dX10_isSlot_6 ⟨Nat.le_of_ble_eq_true rfl, Nat.le_of_ble_eq_true rfl⟩) (fun r2 u3 H locs hw4 hP hD hS => ?_)
  try dsimp only at hw4
  have hP : va_P G vwCl [] H := hP
  have hD : va_D A [] := hD
  rcases hw4 with ⟨rfl, a5, b6⟩ | ⟨rfl, a5⟩
  · skip
    exact hret _ _ _ _ 1 () hP hD hS dX10_isSlot_9 rfl (Or.inl ⟨rfl, by omega, by omega⟩)
  · skip
    exact hret _ _ _ _ 0 () hP hD hS dX10_isSlot_9 rfl (Or.inr ⟨rfl, by omega⟩)
set_option maxHeartbeats 4000000 in
set_option maxRecDepth 100000 in
theorem f_X10_isSeed (l : Launch) (G : va_G) (cI cJ cZ cB cQ : ClassId) (sz : Nat) (p0 : Int32) (a0 : Int) (h0 : p0.toInt = a0) : CI l yX10_isSeed (wl_ yX10_isSeed cX10_isSeed 1 (some .boolean)) ({ frames := 1, cells := 0, slots := 0, locals := 25 } : Room) G (TY cI cJ cZ cB cQ) [.int p0] [] sz (fun (r : Int32) (u : Unit) => (r = 1 ∧ 0 ≤ a0 ∧ a0 ≤ 2000000000) ∨ (r = 0 ∧ (a0 < 0 ∨ 2000000000 < a0))) (fun _ : Unit => []) 0 0 := by
  refine CI.goz (cc := cX10_isSeed) (maxL := 1) (ret := (some .boolean)) (by decide) rfl (Nat.le_of_ble_eq_true rfl) ?_
  intro p e s m below meth c A ls Q hBd hret
  obtain ⟨hx, hb, hr, hml, hts, hown, hlk, hnm, hP, hK, hD, hA, hZ, hl⟩ := hBd
  have hown : s.vm.findClass RX10 = some m.cls := hown
  have hl : lv_has ls 1 [(0, .int p0)] := hl
  have hS : va_S A s.heap s.heap [] := va_S.rf
  refine lv_iload_n hx hb dX10_isSeed_0 rfl (lv_at hl 0 rfl) ?_
  obtain ⟨v1, ev1⟩ : ∃ y : Int64, p0.toInt64 = y := ⟨_, rfl⟩
  have tv1 : v1.toInt = a0 := ti_wide h0 ev1
  refine lv_i2l (v := v1) hx hb dX10_isSeed_1 ev1 ?_
  refine lv_lconst (v := 0) hx hb dX10_isSeed_2 (by decide) ?_
  refine lv_ldc2 (v := 2000000000) hx hb hown (hts _ w_1951) dX10_isSeed_3 ?_
  refine k_i (wc := []) (wr := []) hP hD hS hA [] [] rfl rfl rfl (by decide) (va_runS (As := [.long v1, .long 0, .long 2000000000]) (rest := []) ⟨hx, hb, hml, hown, hts⟩ (f_X10_in l G cI cJ cZ cB cQ _ v1 0 2000000000 a0 0 2000000000 tv1 kl_0 kl_2000000000) (va_cwS 3 hts (gS w_1336 w_1337 w_11 w_1338) rfl rfl rfl hd_X10_in ⟨Nat.le_of_ble_eq_true rfl, Nat.le_of_ble_eq_true rfl⟩) (mS hK hZ hP hD [] rfl rfl [.long v1, .long 0, .long 2000000000]) rfl rfl hl.1 rfl (lv_room (Nat.le_of_ble_eq_true rfl)) dX10_isSeed_6 ⟨Nat.le_of_ble_eq_true rfl, Nat.le_of_ble_eq_true rfl⟩) (fun r2 u3 H locs hw4 hP hD hS => ?_)
  try dsimp only at hw4
  have hP : va_P G vwCl [] H := hP
  have hD : va_D A [] := hD
  rcases hw4 with ⟨rfl, a5, b6⟩ | ⟨rfl, a5⟩
  · skip
    exact hret _ _ _ _ 1 () hP hD hS dX10_isSeed_9 rfl (Or.inl ⟨rfl, by omega, by omega⟩)
  · skip
    exact hret _ _ _ _ 0 () hP hD hS dX10_isSeed_9 rfl (Or.inr ⟨rfl, by omega⟩)
set_option maxHeartbeats 4000000 in
set_option maxRecDepth 100000 in
theorem f_X10_isColony (l : Launch) (G : va_G) (cI cJ cZ cB cQ : ClassId) (sz : Nat) (h0 : Nat) (b : Nat → Nat) (ow : Int32) : CI l yX10_isColony (wl_ yX10_isColony cX10_isColony 1 (some .boolean)) ({ frames := 0, cells := 0, slots := 0, locals := 0 } : Room) G (TY cI cJ cZ cB cQ) [.ref h0] [(h0, oX10 b 0 0 0 0 0 0 0 0 (-1) 0 0 ow 0 0 0 0 0 0), (b 1, .inl (cI, 149, .inl (fun _ => 0)))] sz (fun (r : Int32) (u : Unit) => r = 0) (fun _ : Unit => [(h0, oX10 b 0 0 0 0 0 0 0 0 (-1) 0 0 ow 0 0 0 0 0 0), (b 1, .inl (cI, 149, .inl (fun _ => 0)))]) 0 0 := by
  refine CI.goz (cc := cX10_isColony) (maxL := 1) (ret := (some .boolean)) (by decide) rfl (Nat.le_of_ble_eq_true rfl) ?_
  intro p e s m below meth c A ls Q hBd hret
  obtain ⟨hx, hb, hr, hml, hts, hown, hlk, hnm, hP, hK, hD, hA, hZ, hl⟩ := hBd
  have hown : s.vm.findClass RX10 = some m.cls := hown
  have hl : lv_has ls 1 [(0, .ref h0)] := hl
  have hS : va_S A s.heap s.heap [] := va_S.rf
  refine lv_aload_n hx hb dX10_isColony_0 rfl (lv_at hl 0 rfl) ?_
  refine va_get (D := G) (ci := 10) (v := .ref (b 1)) (C := RX10) (T := TX10) (N := 46) hx hb hts iG_X10 hown hK hP 0 rfl rfl 1 (by decide) (hts _ w_1193) (fun _ h9 => h9) rfl dX10_isColony_1 ?_
  refine lv_bipush (v := 9) hx hb dX10_isColony_4 (by decide) ?_
  refine va_iald hx hb hK hP 1 0 rfl rfl (ix_in ki_9 (by omega) (by omega)) dX10_isColony_6 ?_
  refine W.eq (g2 := F0 m 7 ls [.int 0]) rfl ?_
  refine lv_if_le (tgt := 14) hx hb dX10_isColony_7 (by decide) (fun c1 => ?_) (fun c1 => absurd (by decide) c1)
  refine lv_iconst (v := 0) hx hb dX10_isColony_14 (by decide) ?_
  exact hret _ _ _ _ 0 () hP hD hS dX10_isColony_15 rfl rfl
set_option maxHeartbeats 4000000 in
set_option maxRecDepth 100000 in
theorem f_X10_years (l : Launch) (G : va_G) (cI cJ cZ cB cQ : ClassId) (sz : Nat) (h0 : Nat) (b : Nat → Nat) (ow : Int32) : CI l yX10_years (wl_ yX10_years cX10_years 1 (some .int)) ({ frames := 0, cells := 0, slots := 0, locals := 0 } : Room) G (TY cI cJ cZ cB cQ) [.ref h0] [(h0, oX10 b 0 0 0 0 0 0 0 0 (-1) 0 0 ow 0 0 0 0 0 0), (b 1, .inl (cI, 149, .inl (fun _ => 0)))] sz (fun (r : Int32) (u : Unit) => r = 0) (fun _ : Unit => [(h0, oX10 b 0 0 0 0 0 0 0 0 (-1) 0 0 ow 0 0 0 0 0 0), (b 1, .inl (cI, 149, .inl (fun _ => 0)))]) 0 0 := by
  refine CI.go (cc := cX10_years) (maxL := 1) (ret := (some .int)) (by decide) rfl (Nat.le_of_ble_eq_true rfl) ?_
  intro p e s m below meth c A ls Q hBd hret
  obtain ⟨hx, hb, hr, hml, hts, hown, hlk, hnm, hP, hK, hD, hA, hZ, hl⟩ := hBd
  have hown : s.vm.findClass RX10 = some m.cls := hown
  have hl : lv_has ls 1 [(0, .ref h0)] := hl
  have hS : va_S A s.heap s.heap [] := va_S.rf
  refine lv_aload_n hx hb dX10_years_0 rfl (lv_at hl 0 rfl) ?_
  refine va_get (D := G) (ci := 10) (v := .ref (b 1)) (C := RX10) (T := TX10) (N := 46) hx hb hts iG_X10 hown hK hP 0 rfl rfl 1 (by decide) (hts _ w_1193) (fun _ h9 => h9) rfl dX10_years_1 ?_
  refine lv_iconst (v := 0) hx hb dX10_years_4 (by decide) ?_
  refine va_iald hx hb hK hP 1 0 rfl rfl (ix_in ki_0 (by omega) (by omega)) dX10_years_5 ?_
  refine W.eq (g2 := F0 m 6 ls [.int 0]) rfl ?_
  exact hret _ _ _ _ 0 () hP hD hS dX10_years_6 rfl
set_option maxHeartbeats 4000000 in
set_option maxRecDepth 100000 in
theorem f_X10_widows (l : Launch) (G : va_G) (cI cJ cZ cB cQ : ClassId) (sz : Nat) (h0 : Nat) (b : Nat → Nat) (ow : Int32) : CI l yX10_widows (wl_ yX10_widows cX10_widows 1 (some .int)) ({ frames := 0, cells := 0, slots := 0, locals := 0 } : Room) G (TY cI cJ cZ cB cQ) [.ref h0] [(h0, oX10 b 0 0 0 0 0 0 0 0 (-1) 0 0 ow 0 0 0 0 0 0), (b 1, .inl (cI, 149, .inl (fun _ => 0)))] sz (fun (r : Int32) (u : Unit) => r = 0) (fun _ : Unit => [(h0, oX10 b 0 0 0 0 0 0 0 0 (-1) 0 0 ow 0 0 0 0 0 0), (b 1, .inl (cI, 149, .inl (fun _ => 0)))]) 0 0 := by
  refine CI.go (cc := cX10_widows) (maxL := 1) (ret := (some .int)) (by decide) rfl (Nat.le_of_ble_eq_true rfl) ?_
  intro p e s m below meth c A ls Q hBd hret
  obtain ⟨hx, hb, hr, hml, hts, hown, hlk, hnm, hP, hK, hD, hA, hZ, hl⟩ := hBd
  have hown : s.vm.findClass RX10 = some m.cls := hown
  have hl : lv_has ls 1 [(0, .ref h0)] := hl
  have hS : va_S A s.heap s.heap [] := va_S.rf
  refine lv_aload_n hx hb dX10_widows_0 rfl (lv_at hl 0 rfl) ?_
  refine va_get (D := G) (ci := 10) (v := .ref (b 1)) (C := RX10) (T := TX10) (N := 46) hx hb hts iG_X10 hown hK hP 0 rfl rfl 1 (by decide) (hts _ w_1193) (fun _ h9 => h9) rfl dX10_widows_1 ?_
  refine lv_bipush (v := 7) hx hb dX10_widows_4 (by decide) ?_
  refine va_iald hx hb hK hP 1 0 rfl rfl (ix_in ki_7 (by omega) (by omega)) dX10_widows_6 ?_
  refine W.eq (g2 := F0 m 7 ls [.int 0]) rfl ?_
  exact hret _ _ _ _ 0 () hP hD hS dX10_widows_7 rfl
set_option maxHeartbeats 4000000 in
set_option maxRecDepth 100000 in
theorem f_X10_houses (l : Launch) (G : va_G) (cI cJ cZ cB cQ : ClassId) (sz : Nat) (h0 : Nat) (b : Nat → Nat) (ow : Int32) : CI l yX10_houses (wl_ yX10_houses cX10_houses 1 (some .int)) ({ frames := 0, cells := 0, slots := 0, locals := 0 } : Room) G (TY cI cJ cZ cB cQ) [.ref h0] [(h0, oX10 b 0 0 0 0 0 0 0 0 (-1) 0 0 ow 0 0 0 0 0 0), (b 1, .inl (cI, 149, .inl (fun _ => 0)))] sz (fun (r : Int32) (u : Unit) => r = 0) (fun _ : Unit => [(h0, oX10 b 0 0 0 0 0 0 0 0 (-1) 0 0 ow 0 0 0 0 0 0), (b 1, .inl (cI, 149, .inl (fun _ => 0)))]) 0 0 := by
  refine CI.go (cc := cX10_houses) (maxL := 1) (ret := (some .int)) (by decide) rfl (Nat.le_of_ble_eq_true rfl) ?_
  intro p e s m below meth c A ls Q hBd hret
  obtain ⟨hx, hb, hr, hml, hts, hown, hlk, hnm, hP, hK, hD, hA, hZ, hl⟩ := hBd
  have hown : s.vm.findClass RX10 = some m.cls := hown
  have hl : lv_has ls 1 [(0, .ref h0)] := hl
  have hS : va_S A s.heap s.heap [] := va_S.rf
  refine lv_aload_n hx hb dX10_houses_0 rfl (lv_at hl 0 rfl) ?_
  refine va_get (D := G) (ci := 10) (v := .ref (b 1)) (C := RX10) (T := TX10) (N := 46) hx hb hts iG_X10 hown hK hP 0 rfl rfl 1 (by decide) (hts _ w_1193) (fun _ h9 => h9) rfl dX10_houses_1 ?_
  refine lv_bipush (v := 6) hx hb dX10_houses_4 (by decide) ?_
  refine va_iald hx hb hK hP 1 0 rfl rfl (ix_in ki_6 (by omega) (by omega)) dX10_houses_6 ?_
  refine W.eq (g2 := F0 m 7 ls [.int 0]) rfl ?_
  exact hret _ _ _ _ 0 () hP hD hS dX10_houses_7 rfl
set_option maxHeartbeats 4000000 in
set_option maxRecDepth 100000 in
theorem f_X10_allWidows (l : Launch) (G : va_G) (cI cJ cZ cB cQ : ClassId) (sz : Nat) (h0 : Nat) (b : Nat → Nat) (ow : Int32) : CI l yX10_allWidows (wl_ yX10_allWidows cX10_allWidows 1 (some .int)) ({ frames := 1, cells := 0, slots := 0, locals := 20 } : Room) G (TY cI cJ cZ cB cQ) [.ref h0] [(h0, oX10 b 0 0 0 0 0 0 0 0 (-1) 0 0 ow 0 0 0 0 0 0), (b 1, .inl (cI, 149, .inl (fun _ => 0)))] sz (fun (r : Int32) (u : Unit) => r = 0) (fun _ : Unit => [(h0, oX10 b 0 0 0 0 0 0 0 0 (-1) 0 0 ow 0 0 0 0 0 0), (b 1, .inl (cI, 149, .inl (fun _ => 0)))]) 0 0 := by
  refine CI.go (cc := cX10_allWidows) (maxL := 1) (ret := (some .int)) (by decide) rfl (Nat.le_of_ble_eq_true rfl) ?_
  intro p e s m below meth c A ls Q hBd hret
  obtain ⟨hx, hb, hr, hml, hts, hown, hlk, hnm, hP, hK, hD, hA, hZ, hl⟩ := hBd
  have hown : s.vm.findClass RX10 = some m.cls := hown
  have hl : lv_has ls 1 [(0, .ref h0)] := hl
  have hS : va_S A s.heap s.heap [] := va_S.rf
  refine lv_iconst (v := 1) hx hb dX10_allWidows_0 (by decide) ?_
  refine lv_aload_n hx hb dX10_allWidows_1 rfl (lv_at hl 0 rfl) ?_
  refine k_i (wc := [(h0, oX10 b 0 0 0 0 0 0 0 0 (-1) 0 0 ow 0 0 0 0 0 0), (b 1, .inl (cI, 149, .inl (fun _ => 0)))]) (wr := []) hP hD hS hA [0, 1] [] rfl rfl rfl (by decide) (va_runV (As := []) (rest := [.int 1]) ⟨hx, hb, hml, hown, hts⟩ (f_X10_widows l G cI cJ cZ cB cQ _ h0 b ow) (cwV 0 hts (gV w_1464 w_1466 wp_102 w_11 w_1467) rfl rfl rfl ⟨rfl, hd_X10_widows⟩ ⟨Nat.le_of_ble_eq_true rfl, Nat.le_of_ble_eq_true rfl⟩) (mV hK hZ hP hD [0, 1] rfl rfl [] 0 10 rfl rfl) rfl rfl hl.1 rfl (lv_room (Nat.le_of_ble_eq_true rfl)) dX10_allWidows_2 ⟨Nat.le_of_ble_eq_true rfl, Nat.le_of_ble_eq_true rfl⟩) (fun r1 u2 H locs hw3 hP hD hS => ?_)
  try dsimp only at hw3
  have hP : va_P G vwCl [(h0, oX10 b 0 0 0 0 0 0 0 0 (-1) 0 0 ow 0 0 0 0 0 0), (b 1, .inl (cI, 149, .inl (fun _ => 0)))] H := hP
  have hD : va_D A [(h0, oX10 b 0 0 0 0 0 0 0 0 (-1) 0 0 ow 0 0 0 0 0 0), (b 1, .inl (cI, 149, .inl (fun _ => 0)))] := hD
  obtain rfl : r1 = 0 := hw3
  refine lv_ishl hx hb dX10_allWidows_5 ?_
  refine lv_topi (fun v4 ev4 => ?_)
  obtain rfl : v4 = 1 := ev4.trans (by decide)
  refine lv_iconst (v := 1) hx hb dX10_allWidows_6 (by decide) ?_
  refine lv_isub hx hb dX10_allWidows_7 ?_
  refine lv_topi (fun v5 ev5 => ?_)
  obtain rfl : v5 = 0 := ev5.trans (by decide)
  exact hret _ _ _ _ 0 () hP hD hS dX10_allWidows_8 rfl
set_option maxHeartbeats 4000000 in
set_option maxRecDepth 100000 in
theorem f_X10_isYear (l : Launch) (G : va_G) (cI cJ cZ cB cQ : ClassId) (sz : Nat) (h0 : Nat) (b : Nat → Nat) (ow : Int32) (p0 : Int64) : CI l yX10_isYear (wl_ yX10_isYear cX10_isYear 3 (some .boolean)) ({ frames := 1, cells := 0, slots := 0, locals := 20 } : Room) G (TY cI cJ cZ cB cQ) [.ref h0, .long p0] [(h0, oX10 b 0 0 0 0 0 0 0 0 (-1) 0 0 ow 0 0 0 0 0 0), (b 1, .inl (cI, 149, .inl (fun _ => 0)))] sz (fun (r : Int32) (u : Unit) => r = 0) (fun _ : Unit => [(h0, oX10 b 0 0 0 0 0 0 0 0 (-1) 0 0 ow 0 0 0 0 0 0), (b 1, .inl (cI, 149, .inl (fun _ => 0)))]) 0 0 := by
  refine CI.goz (cc := cX10_isYear) (maxL := 3) (ret := (some .boolean)) (by decide) rfl (Nat.le_of_ble_eq_true rfl) ?_
  intro p e s m below meth c A ls Q hBd hret
  obtain ⟨hx, hb, hr, hml, hts, hown, hlk, hnm, hP, hK, hD, hA, hZ, hl⟩ := hBd
  have hown : s.vm.findClass RX10 = some m.cls := hown
  have hl : lv_has ls 3 [(0, .ref h0), (1, .long p0)] := hl
  have hS : va_S A s.heap s.heap [] := va_S.rf
  refine lv_aload_n hx hb dX10_isYear_0 rfl (lv_at hl 0 rfl) ?_
  refine k_i (wc := [(h0, oX10 b 0 0 0 0 0 0 0 0 (-1) 0 0 ow 0 0 0 0 0 0), (b 1, .inl (cI, 149, .inl (fun _ => 0)))]) (wr := []) hP hD hS hA [0, 1] [] rfl rfl rfl (by decide) (va_runV (As := []) (rest := []) ⟨hx, hb, hml, hown, hts⟩ (f_X10_isColony l G cI cJ cZ cB cQ _ h0 b ow) (cwV 0 hts (gV w_1554 w_1556 wp_120 w_11 w_1557) rfl rfl rfl ⟨rfl, hd_X10_isColony⟩ ⟨Nat.le_of_ble_eq_true rfl, Nat.le_of_ble_eq_true rfl⟩) (mV hK hZ hP hD [0, 1] rfl rfl [] 0 10 rfl rfl) rfl rfl hl.1 rfl (lv_room (Nat.le_of_ble_eq_true rfl)) dX10_isYear_1 ⟨Nat.le_of_ble_eq_true rfl, Nat.le_of_ble_eq_true rfl⟩) (fun r1 u2 H locs hw3 hP hD hS => ?_)
  try dsimp only at hw3
  have hP : va_P G vwCl [(h0, oX10 b 0 0 0 0 0 0 0 0 (-1) 0 0 ow 0 0 0 0 0 0), (b 1, .inl (cI, 149, .inl (fun _ => 0)))] H := hP
  have hD : va_D A [(h0, oX10 b 0 0 0 0 0 0 0 0 (-1) 0 0 ow 0 0 0 0 0 0), (b 1, .inl (cI, 149, .inl (fun _ => 0)))] := hD
  obtain rfl : r1 = 0 := hw3
  refine lv_if_eq (tgt := 24) hx hb dX10_isYear_4 (by decide) (fun c4 => ?_) (fun c4 => absurd (by decide) c4)
  refine lv_iconst (v := 0) hx hb dX10_isYear_24 (by decide) ?_
  exact hret _ _ _ _ 0 () hP hD hS dX10_isYear_25 rfl rfl
set_option maxHeartbeats 4000000 in
set_option maxRecDepth 100000 in
theorem f_X10_isCell (l : Launch) (G : va_G) (cI cJ cZ cB cQ : ClassId) (sz : Nat) (h0 : Nat) (b : Nat → Nat) (ow : Int32) (p0 : Int64) : CI l yX10_isCell (wl_ yX10_isCell cX10_isCell 3 (some .boolean)) ({ frames := 1, cells := 0, slots := 0, locals := 20 } : Room) G (TY cI cJ cZ cB cQ) [.ref h0, .long p0] [(h0, oX10 b 0 0 0 0 0 0 0 0 (-1) 0 0 ow 0 0 0 0 0 0), (b 1, .inl (cI, 149, .inl (fun _ => 0)))] sz (fun (r : Int32) (u : Unit) => r = 0) (fun _ : Unit => [(h0, oX10 b 0 0 0 0 0 0 0 0 (-1) 0 0 ow 0 0 0 0 0 0), (b 1, .inl (cI, 149, .inl (fun _ => 0)))]) 0 0 := by
  refine CI.goz (cc := cX10_isCell) (maxL := 3) (ret := (some .boolean)) (by decide) rfl (Nat.le_of_ble_eq_true rfl) ?_
  intro p e s m below meth c A ls Q hBd hret
  obtain ⟨hx, hb, hr, hml, hts, hown, hlk, hnm, hP, hK, hD, hA, hZ, hl⟩ := hBd
  have hown : s.vm.findClass RX10 = some m.cls := hown
  have hl : lv_has ls 3 [(0, .ref h0), (1, .long p0)] := hl
  have hS : va_S A s.heap s.heap [] := va_S.rf
  refine lv_aload_n hx hb dX10_isCell_0 rfl (lv_at hl 0 rfl) ?_
  refine k_i (wc := [(h0, oX10 b 0 0 0 0 0 0 0 0 (-1) 0 0 ow 0 0 0 0 0 0), (b 1, .inl (cI, 149, .inl (fun _ => 0)))]) (wr := []) hP hD hS hA [0, 1] [] rfl rfl rfl (by decide) (va_runV (As := []) (rest := []) ⟨hx, hb, hml, hown, hts⟩ (f_X10_isColony l G cI cJ cZ cB cQ _ h0 b ow) (cwV 0 hts (gV w_1554 w_1556 wp_120 w_11 w_1557) rfl rfl rfl ⟨rfl, hd_X10_isColony⟩ ⟨Nat.le_of_ble_eq_true rfl, Nat.le_of_ble_eq_true rfl⟩) (mV hK hZ hP hD [0, 1] rfl rfl [] 0 10 rfl rfl) rfl rfl hl.1 rfl (lv_room (Nat.le_of_ble_eq_true rfl)) dX10_isCell_1 ⟨Nat.le_of_ble_eq_true rfl, Nat.le_of_ble_eq_true rfl⟩) (fun r1 u2 H locs hw3 hP hD hS => ?_)
  try dsimp only at hw3
  have hP : va_P G vwCl [(h0, oX10 b 0 0 0 0 0 0 0 0 (-1) 0 0 ow 0 0 0 0 0 0), (b 1, .inl (cI, 149, .inl (fun _ => 0)))] H := hP
  have hD : va_D A [(h0, oX10 b 0 0 0 0 0 0 0 0 (-1) 0 0 ow 0 0 0 0 0 0), (b 1, .inl (cI, 149, .inl (fun _ => 0)))] := hD
  obtain rfl : r1 = 0 := hw3
  refine lv_if_eq (tgt := 59) hx hb dX10_isCell_4 (by decide) (fun c4 => ?_) (fun c4 => absurd (by decide) c4)
  refine lv_iconst (v := 0) hx hb dX10_isCell_59 (by decide) ?_
  exact hret _ _ _ _ 0 () hP hD hS dX10_isCell_60 rfl rfl
set_option maxHeartbeats 4000000 in
set_option maxRecDepth 100000 in
theorem f_X10_isWidow (l : Launch) (G : va_G) (cI cJ cZ cB cQ : ClassId) (sz : Nat) (h0 : Nat) (b : Nat → Nat) (ow : Int32) (p0 : Int64) : CI l yX10_isWidow (wl_ yX10_isWidow cX10_isWidow 3 (some .boolean)) ({ frames := 1, cells := 0, slots := 0, locals := 25 } : Room) G (TY cI cJ cZ cB cQ) [.ref h0, .long p0] [(h0, oX10 b 0 0 0 0 0 0 0 0 (-1) 0 0 ow 0 0 0 0 0 0), (b 1, .inl (cI, 149, .inl (fun _ => 0)))] sz (fun (r : Int32) (u : Unit) => r = 0) (fun _ : Unit => [(h0, oX10 b 0 0 0 0 0 0 0 0 (-1) 0 0 ow 0 0 0 0 0 0), (b 1, .inl (cI, 149, .inl (fun _ => 0)))]) 0 0 := by
  refine CI.goz (cc := cX10_isWidow) (maxL := 3) (ret := (some .boolean)) (by decide) rfl (Nat.le_of_ble_eq_true rfl) ?_
  intro p e s m below meth c A ls Q hBd hret
  obtain ⟨hx, hb, hr, hml, hts, hown, hlk, hnm, hP, hK, hD, hA, hZ, hl⟩ := hBd
  have hown : s.vm.findClass RX10 = some m.cls := hown
  have hl : lv_has ls 3 [(0, .ref h0), (1, .long p0)] := hl
  have hS : va_S A s.heap s.heap [] := va_S.rf
  refine lv_lload_n hx hb dX10_isWidow_0 rfl (lv_at hl 1 rfl) ?_
  refine lv_lconst (v := 0) hx hb dX10_isWidow_1 (by decide) ?_
  refine lv_aload_n hx hb dX10_isWidow_2 rfl (lv_at hl 0 rfl) ?_
  refine k_i (wc := [(h0, oX10 b 0 0 0 0 0 0 0 0 (-1) 0 0 ow 0 0 0 0 0 0), (b 1, .inl (cI, 149, .inl (fun _ => 0)))]) (wr := []) hP hD hS hA [0, 1] [] rfl rfl rfl (by decide) (va_runV (As := []) (rest := [.long 0, .long p0]) ⟨hx, hb, hml, hown, hts⟩ (f_X10_widows l G cI cJ cZ cB cQ _ h0 b ow) (cwV 0 hts (gV w_1464 w_1466 wp_102 w_11 w_1467) rfl rfl rfl ⟨rfl, hd_X10_widows⟩ ⟨Nat.le_of_ble_eq_true rfl, Nat.le_of_ble_eq_true rfl⟩) (mV hK hZ hP hD [0, 1] rfl rfl [] 0 10 rfl rfl) rfl rfl hl.1 rfl (lv_room (Nat.le_of_ble_eq_true rfl)) dX10_isWidow_3 ⟨Nat.le_of_ble_eq_true rfl, Nat.le_of_ble_eq_true rfl⟩) (fun r1 u2 H locs hw3 hP hD hS => ?_)
  try dsimp only at hw3
  have hP : va_P G vwCl [(h0, oX10 b 0 0 0 0 0 0 0 0 (-1) 0 0 ow 0 0 0 0 0 0), (b 1, .inl (cI, 149, .inl (fun _ => 0)))] H := hP
  have hD : va_D A [(h0, oX10 b 0 0 0 0 0 0 0 0 (-1) 0 0 ow 0 0 0 0 0 0), (b 1, .inl (cI, 149, .inl (fun _ => 0)))] := hD
  obtain rfl : r1 = 0 := hw3
  refine lv_iconst (v := 1) hx hb dX10_isWidow_6 (by decide) ?_
  refine lv_isub hx hb dX10_isWidow_7 ?_
  refine lv_topi (fun v4 ev4 => ?_)
  obtain rfl : v4 = (-1) := ev4.trans (by decide)
  refine lv_i2l (v := (-1)) hx hb dX10_isWidow_8 (by decide) ?_
  refine k_i (wc := []) (wr := [(h0, oX10 b 0 0 0 0 0 0 0 0 (-1) 0 0 ow 0 0 0 0 0 0), (b 1, .inl (cI, 149, .inl (fun _ => 0)))]) hP hD hS hA [] [0, 1] rfl rfl rfl (by decide) (va_runS (As := [.long p0, .long 0, .long (-1)]) (rest := []) ⟨hx, hb, hml, hown, hts⟩ (f_X10_in l G cI cJ cZ cB cQ _ p0 0 (-1) p0.toInt 0 (-1) rfl kl_0 kl_m1) (va_cwS 3 hts (gS w_1336 w_1337 w_11 w_1338) rfl rfl rfl hd_X10_in ⟨Nat.le_of_ble_eq_true rfl, Nat.le_of_ble_eq_true rfl⟩) (mS hK hZ hP hD [] rfl rfl [.long p0, .long 0, .long (-1)]) rfl rfl hl.1 rfl (lv_room (Nat.le_of_ble_eq_true rfl)) dX10_isWidow_9 ⟨Nat.le_of_ble_eq_true rfl, Nat.le_of_ble_eq_true rfl⟩) (fun r6 u7 H locs hw8 hP hD hS => ?_)
  try dsimp only at hw8
  have hP : va_P G vwCl [(h0, oX10 b 0 0 0 0 0 0 0 0 (-1) 0 0 ow 0 0 0 0 0 0), (b 1, .inl (cI, 149, .inl (fun _ => 0)))] H := hP
  have hD : va_D A [(h0, oX10 b 0 0 0 0 0 0 0 0 (-1) 0 0 ow 0 0 0 0 0 0), (b 1, .inl (cI, 149, .inl (fun _ => 0)))] := hD
  rcases hw8 with ⟨rfl, a9, b10⟩ | ⟨rfl, a9⟩
  · exact absurd a9 (by omega)
  · skip
    exact hret _ _ _ _ 0 () hP hD hS dX10_isWidow_12 rfl rfl
set_option maxHeartbeats 4000000 in
set_option maxRecDepth 100000 in
theorem f_X10_areTwo (l : Launch) (G : va_G) (cI cJ cZ cB cQ : ClassId) (sz : Nat) (h0 : Nat) (b : Nat → Nat) (ow : Int32) (p0 : Int32) (p1 : Int32) : CI l yX10_areTwo (wl_ yX10_areTwo cX10_areTwo 3 (some .boolean)) ({ frames := 2, cells := 0, slots := 0, locals := 47 } : Room) G (TY cI cJ cZ cB cQ) [.ref h0, .int p0, .int p1] [(h0, oX10 b 0 0 0 0 0 0 0 0 (-1) 0 0 ow 0 0 0 0 0 0), (b 1, .inl (cI, 149, .inl (fun _ => 0)))] sz (fun (r : Int32) (u : Unit) => r = 0) (fun _ : Unit => [(h0, oX10 b 0 0 0 0 0 0 0 0 (-1) 0 0 ow 0 0 0 0 0 0), (b 1, .inl (cI, 149, .inl (fun _ => 0)))]) 0 0 := by
  refine CI.goz (cc := cX10_areTwo) (maxL := 3) (ret := (some .boolean)) (by decide) rfl (Nat.le_of_ble_eq_true rfl) ?_
  intro p e s m below meth c A ls Q hBd hret
  obtain ⟨hx, hb, hr, hml, hts, hown, hlk, hnm, hP, hK, hD, hA, hZ, hl⟩ := hBd
  have hown : s.vm.findClass RX10 = some m.cls := hown
  have hl : lv_has ls 3 [(0, .ref h0), (1, .int p0), (2, .int p1)] := hl
  have hS : va_S A s.heap s.heap [] := va_S.rf
  refine lv_aload_n hx hb dX10_areTwo_0 rfl (lv_at hl 0 rfl) ?_
  refine lv_iload_n hx hb dX10_areTwo_1 rfl (lv_at hl 1 rfl) ?_
  obtain ⟨v1, ev1⟩ : ∃ y : Int64, p0.toInt64 = y := ⟨_, rfl⟩
  have tv1 : v1.toInt = p0.toInt := ti_wide rfl ev1
  refine lv_i2l (v := v1) hx hb dX10_areTwo_2 ev1 ?_
  refine k_i (wc := [(h0, oX10 b 0 0 0 0 0 0 0 0 (-1) 0 0 ow 0 0 0 0 0 0), (b 1, .inl (cI, 149, .inl (fun _ => 0)))]) (wr := []) hP hD hS hA [0, 1] [] rfl rfl rfl (by decide) (va_runV (As := [.long v1]) (rest := []) ⟨hx, hb, hml, hown, hts⟩ (f_X10_isWidow l G cI cJ cZ cB cQ _ h0 b ow v1) (cwV 1 hts (gV w_1460 w_1462 wp_101 w_11 w_1463) rfl rfl rfl ⟨rfl, hd_X10_isWidow⟩ ⟨Nat.le_of_ble_eq_true rfl, Nat.le_of_ble_eq_true rfl⟩) (mV hK hZ hP hD [0, 1] rfl rfl [.long v1] 0 10 rfl rfl) rfl rfl hl.1 rfl (lv_room (Nat.le_of_ble_eq_true rfl)) dX10_areTwo_3 ⟨Nat.le_of_ble_eq_true rfl, Nat.le_of_ble_eq_true rfl⟩) (fun r2 u3 H locs hw4 hP hD hS => ?_)
  try dsimp only at hw4
  have hP : va_P G vwCl [(h0, oX10 b 0 0 0 0 0 0 0 0 (-1) 0 0 ow 0 0 0 0 0 0), (b 1, .inl (cI, 149, .inl (fun _ => 0)))] H := hP
  have hD : va_D A [(h0, oX10 b 0 0 0 0 0 0 0 0 (-1) 0 0 ow 0 0 0 0 0 0), (b 1, .inl (cI, 149, .inl (fun _ => 0)))] := hD
  obtain rfl : r2 = 0 := hw4
  refine lv_if_eq (tgt := 27) hx hb dX10_areTwo_6 (by decide) (fun c5 => ?_) (fun c5 => absurd (by decide) c5)
  refine lv_iconst (v := 0) hx hb dX10_areTwo_27 (by decide) ?_
  exact hret _ _ _ _ 0 () hP hD hS dX10_areTwo_28 rfl rfl
set_option maxHeartbeats 4000000 in
set_option maxRecDepth 100000 in
theorem f_X10_isHouseTold (l : Launch) (G : va_G) (cI cJ cZ cB cQ : ClassId) (sz : Nat) (h0 : Nat) (b : Nat → Nat) (ow : Int32) (p0 : Int32) : CI l yX10_isHouseTold (wl_ yX10_isHouseTold cX10_isHouseTold 2 (some .boolean)) ({ frames := 1, cells := 0, slots := 0, locals := 25 } : Room) G (TY cI cJ cZ cB cQ) [.ref h0, .int p0] [(h0, oX10 b 0 0 0 0 0 0 0 0 (-1) 0 0 ow 0 0 0 0 0 0), (b 1, .inl (cI, 149, .inl (fun _ => 0)))] sz (fun (r : Int32) (u : Unit) => r = 0) (fun _ : Unit => [(h0, oX10 b 0 0 0 0 0 0 0 0 (-1) 0 0 ow 0 0 0 0 0 0), (b 1, .inl (cI, 149, .inl (fun _ => 0)))]) 0 0 := by
  refine CI.goz (cc := cX10_isHouseTold) (maxL := 2) (ret := (some .boolean)) (by decide) rfl (Nat.le_of_ble_eq_true rfl) ?_
  intro p e s m below meth c A ls Q hBd hret
  obtain ⟨hx, hb, hr, hml, hts, hown, hlk, hnm, hP, hK, hD, hA, hZ, hl⟩ := hBd
  have hown : s.vm.findClass RX10 = some m.cls := hown
  have hl : lv_has ls 2 [(0, .ref h0), (1, .int p0)] := hl
  have hS : va_S A s.heap s.heap [] := va_S.rf
  refine lv_iload_n hx hb dX10_isHouseTold_0 rfl (lv_at hl 1 rfl) ?_
  obtain ⟨v1, ev1⟩ : ∃ y : Int64, p0.toInt64 = y := ⟨_, rfl⟩
  have tv1 : v1.toInt = p0.toInt := ti_wide rfl ev1
  refine lv_i2l (v := v1) hx hb dX10_isHouseTold_1 ev1 ?_
  refine lv_lconst (v := 0) hx hb dX10_isHouseTold_2 (by decide) ?_
  refine lv_aload_n hx hb dX10_isHouseTold_3 rfl (lv_at hl 0 rfl) ?_
  refine k_i (wc := [(h0, oX10 b 0 0 0 0 0 0 0 0 (-1) 0 0 ow 0 0 0 0 0 0), (b 1, .inl (cI, 149, .inl (fun _ => 0)))]) (wr := []) hP hD hS hA [0, 1] [] rfl rfl rfl (by decide) (va_runV (As := []) (rest := [.long 0, .long v1]) ⟨hx, hb, hml, hown, hts⟩ (f_X10_houses l G cI cJ cZ cB cQ _ h0 b ow) (cwV 0 hts (gV w_1542 w_1544 wp_117 w_11 w_1545) rfl rfl rfl ⟨rfl, hd_X10_houses⟩ ⟨Nat.le_of_ble_eq_true rfl, Nat.le_of_ble_eq_true rfl⟩) (mV hK hZ hP hD [0, 1] rfl rfl [] 0 10 rfl rfl) rfl rfl hl.1 rfl (lv_room (Nat.le_of_ble_eq_true rfl)) dX10_isHouseTold_4 ⟨Nat.le_of_ble_eq_true rfl, Nat.le_of_ble_eq_true rfl⟩) (fun r2 u3 H locs hw4 hP hD hS => ?_)
  try dsimp only at hw4
  have hP : va_P G vwCl [(h0, oX10 b 0 0 0 0 0 0 0 0 (-1) 0 0 ow 0 0 0 0 0 0), (b 1, .inl (cI, 149, .inl (fun _ => 0)))] H := hP
  have hD : va_D A [(h0, oX10 b 0 0 0 0 0 0 0 0 (-1) 0 0 ow 0 0 0 0 0 0), (b 1, .inl (cI, 149, .inl (fun _ => 0)))] := hD
  obtain rfl : r2 = 0 := hw4
  refine lv_iconst (v := 1) hx hb dX10_isHouseTold_7 (by decide) ?_
  refine lv_isub hx hb dX10_isHouseTold_8 ?_
  refine lv_topi (fun v5 ev5 => ?_)
  obtain rfl : v5 = (-1) := ev5.trans (by decide)
  refine lv_i2l (v := (-1)) hx hb dX10_isHouseTold_9 (by decide) ?_
  refine k_i (wc := []) (wr := [(h0, oX10 b 0 0 0 0 0 0 0 0 (-1) 0 0 ow 0 0 0 0 0 0), (b 1, .inl (cI, 149, .inl (fun _ => 0)))]) hP hD hS hA [] [0, 1] rfl rfl rfl (by decide) (va_runS (As := [.long v1, .long 0, .long (-1)]) (rest := []) ⟨hx, hb, hml, hown, hts⟩ (f_X10_in l G cI cJ cZ cB cQ _ v1 0 (-1) p0.toInt 0 (-1) tv1 kl_0 kl_m1) (va_cwS 3 hts (gS w_1336 w_1337 w_11 w_1338) rfl rfl rfl hd_X10_in ⟨Nat.le_of_ble_eq_true rfl, Nat.le_of_ble_eq_true rfl⟩) (mS hK hZ hP hD [] rfl rfl [.long v1, .long 0, .long (-1)]) rfl rfl hl.1 rfl (lv_room (Nat.le_of_ble_eq_true rfl)) dX10_isHouseTold_10 ⟨Nat.le_of_ble_eq_true rfl, Nat.le_of_ble_eq_true rfl⟩) (fun r7 u8 H locs hw9 hP hD hS => ?_)
  try dsimp only at hw9
  have hP : va_P G vwCl [(h0, oX10 b 0 0 0 0 0 0 0 0 (-1) 0 0 ow 0 0 0 0 0 0), (b 1, .inl (cI, 149, .inl (fun _ => 0)))] H := hP
  have hD : va_D A [(h0, oX10 b 0 0 0 0 0 0 0 0 (-1) 0 0 ow 0 0 0 0 0 0), (b 1, .inl (cI, 149, .inl (fun _ => 0)))] := hD
  rcases hw9 with ⟨rfl, a10, b11⟩ | ⟨rfl, a10⟩
  · exact absurd a10 (by omega)
  · skip
    exact hret _ _ _ _ 0 () hP hD hS dX10_isHouseTold_13 rfl rfl
set_option maxHeartbeats 4000000 in
set_option maxRecDepth 100000 in
theorem f_X10_widowOf (l : Launch) (G : va_G) (cI cJ cZ cB cQ : ClassId) (sz : Nat) (h0 : Nat) (b : Nat → Nat) (ow : Int32) (p0 : Int32) (p1 : Int32) (a0 : Int) (a1 : Int) (h1 : p0.toInt = a0) (h2 : p1.toInt = a1) (h3 : 0 ≤ a0) (h4 : a0 ≤ 6) (h5 : 0 ≤ a1) (h6 : a1 ≤ 12) : CI l yX10_widowOf (wl_ yX10_widowOf cX10_widowOf 3 (some .int)) ({ frames := 0, cells := 0, slots := 0, locals := 0 } : Room) G (TY cI cJ cZ cB cQ) [.ref h0, .int p0, .int p1] [(h0, oX10 b 0 0 0 0 0 0 0 0 (-1) 0 0 ow 0 0 0 0 0 0), (b 1, .inl (cI, 149, .inl (fun _ => 0)))] sz (fun (r : Int32) (u : Unit) => r = 0) (fun _ : Unit => [(h0, oX10 b 0 0 0 0 0 0 0 0 (-1) 0 0 ow 0 0 0 0 0 0), (b 1, .inl (cI, 149, .inl (fun _ => 0)))]) 0 0 := by
  refine CI.go (cc := cX10_widowOf) (maxL := 3) (ret := (some .int)) (by decide) rfl (Nat.le_of_ble_eq_true rfl) ?_
  intro p e s m below meth c A ls Q hBd hret
  obtain ⟨hx, hb, hr, hml, hts, hown, hlk, hnm, hP, hK, hD, hA, hZ, hl⟩ := hBd
  have hown : s.vm.findClass RX10 = some m.cls := hown
  have hl : lv_has ls 3 [(0, .ref h0), (1, .int p0), (2, .int p1)] := hl
  have hS : va_S A s.heap s.heap [] := va_S.rf
  refine lv_aload_n hx hb dX10_widowOf_0 rfl (lv_at hl 0 rfl) ?_
  refine va_get (D := G) (ci := 10) (v := .ref (b 1)) (C := RX10) (T := TX10) (N := 46) hx hb hts iG_X10 hown hK hP 0 rfl rfl 1 (by decide) (hts _ w_1193) (fun _ h9 => h9) rfl dX10_widowOf_1 ?_
  refine lv_bipush (v := 28) hx hb dX10_widowOf_4 (by decide) ?_
  refine lv_bipush (v := 13) hx hb dX10_widowOf_6 (by decide) ?_
  refine lv_iload_n hx hb dX10_widowOf_8 rfl (lv_at hl 1 rfl) ?_
  refine lv_imul hx hb dX10_widowOf_9 ?_
  refine lv_topi (fun v1 ev1 => ?_)
  have tv1 : v1.toInt = 13 * a0 := ti_mul ki_13 h1 ev1 (by omega) (by omega)
  refine lv_iadd hx hb dX10_widowOf_10 ?_
  refine lv_topi (fun v2 ev2 => ?_)
  have tv2 : v2.toInt = 28 + (13 * a0) := ti_add ki_28 tv1 ev2 (by omega) (by omega)
  refine lv_iload_n hx hb dX10_widowOf_11 rfl (lv_at hl 2 rfl) ?_
  refine lv_iadd hx hb dX10_widowOf_12 ?_
  refine lv_topi (fun v3 ev3 => ?_)
  have tv3 : v3.toInt = 28 + (13 * a0) + a1 := ti_add tv2 h2 ev3 (by omega) (by omega)
  refine va_iald hx hb hK hP 1 0 rfl rfl (ix_in tv3 (by omega) (by omega)) dX10_widowOf_13 ?_
  refine W.eq (g2 := F0 m 14 ls [.int 0]) rfl ?_
  exact hret _ _ _ _ 0 () hP hD hS dX10_widowOf_14 rfl
set_option maxHeartbeats 4000000 in
set_option maxRecDepth 100000 in
theorem f_X10_asItIs (l : Launch) (G : va_G) (cI cJ cZ cB cQ : ClassId) (sz : Nat) (h0 : Nat) (b : Nat → Nat) : CV l yX10_asItIs (wl_ yX10_asItIs cX10_asItIs 3 none) ({ frames := 2, cells := 0, slots := 0, locals := 40 } : Room) G (TY cI cJ cZ cB cQ) [.ref h0] [(h0, oX10 b 0 0 0 0 0 0 0 0 (-1) 0 0 0 0 0 0 0 0 0), (b 1, .inl (cI, 149, .inl (fun _ => 0))), (b 15, .inl (cZ, 80, .inl (fun _ => 0))), (b 16, .inl (cI, 7, .inl (fun _ => 0)))] sz (fun (u : Unit) => True) (fun _ : Unit => [(h0, oX10 b 0 0 0 0 0 0 0 0 (-1) 0 0 (-1) 0 0 0 0 0 0), (b 1, .inl (cI, 149, .inl (fun _ => 0))), (b 15, .inl (cZ, 80, .inl (fun _ => 0))), (b 16, .inl (cI, 7, .inl (fun _ => 0)))]) 0 0 := by
  refine CV.go (cc := cX10_asItIs) (maxL := 3) (ret := none) (by decide) rfl (Nat.le_of_ble_eq_true rfl) ?_
  intro p e s m below meth c A ls Q hBd hret
  obtain ⟨hx, hb, hr, hml, hts, hown, hlk, hnm, hP, hK, hD, hA, hZ, hl⟩ := hBd
  have hown : s.vm.findClass RX10 = some m.cls := hown
  have hl : lv_has ls 3 [(0, .ref h0)] := hl
  have hS : va_S A s.heap s.heap [] := va_S.rf
  refine lv_aload_n hx hb dX10_asItIs_0 rfl (lv_at hl 0 rfl) ?_
  refine lv_aload_n hx hb dX10_asItIs_1 rfl (lv_at hl 0 rfl) ?_
  refine va_get (D := G) (ci := 10) (v := .ref (b 1)) (C := RX10) (T := TX10) (N := 46) hx hb hts iG_X10 hown hK hP 0 rfl rfl 1 (by decide) (hts _ w_1193) (fun _ h9 => h9) rfl dX10_asItIs_2 ?_
  refine lv_iconst (v := 1) hx hb dX10_asItIs_5 (by decide) ?_
  refine va_iald hx hb hK hP 1 0 rfl rfl (ix_in ki_1 (by omega) (by omega)) dX10_asItIs_6 ?_
  refine W.eq (g2 := F0 m 7 ls [.int 0, .ref h0]) rfl ?_
  refine va_put (D := G) (ci := 10) (v := .int 0) (ty := .int) (C := RX10) (T := TX10) (N := 46) hx hb hts iG_X10 tyX10 tyX10_ok nmX10 hown hK hP hD hS 0 rfl rfl 17 (by decide) (hts _ w_1209) (fun _ h9 => h9) rfl (by decide +kernel) rfl rfl (Nat.le_of_ble_eq_true rfl) dX10_asItIs_7 (fun H locs hP hD hS => ?_)
  have hP : va_P G vwCl [(h0, oX10 b 0 0 0 0 0 0 0 0 (-1) 0 0 0 0 0 0 0 0 0), (b 1, .inl (cI, 149, .inl (fun _ => 0))), (b 15, .inl (cZ, 80, .inl (fun _ => 0))), (b 16, .inl (cI, 7, .inl (fun _ => 0)))] H := hP
  have hD : va_D A [(h0, oX10 b 0 0 0 0 0 0 0 0 (-1) 0 0 0 0 0 0 0 0 0), (b 1, .inl (cI, 149, .inl (fun _ => 0))), (b 15, .inl (cZ, 80, .inl (fun _ => 0))), (b 16, .inl (cI, 7, .inl (fun _ => 0)))] := hD
  refine lv_aload_n hx hb dX10_asItIs_10 rfl (lv_at hl 0 rfl) ?_
  refine lv_aload_n hx hb dX10_asItIs_11 rfl (lv_at hl 0 rfl) ?_
  refine k_i (wc := [(h0, oX10 b 0 0 0 0 0 0 0 0 (-1) 0 0 0 0 0 0 0 0 0), (b 1, .inl (cI, 149, .inl (fun _ => 0)))]) (wr := [(b 15, .inl (cZ, 80, .inl (fun _ => 0))), (b 16, .inl (cI, 7, .inl (fun _ => 0)))]) hP hD hS hA [0, 1] [2, 3] rfl rfl rfl (by decide) (va_runV (As := []) (rest := [.ref h0]) ⟨hx, hb, hml, hown, hts⟩ (f_X10_allWidows l G cI cJ cZ cB cQ _ h0 b 0) (cwV 0 hts (gV w_1493 w_1495 wp_107 w_11 w_1496) rfl rfl rfl ⟨rfl, hd_X10_allWidows⟩ ⟨Nat.le_of_ble_eq_true rfl, Nat.le_of_ble_eq_true rfl⟩) (mV hK hZ hP hD [0, 1] rfl rfl [] 0 10 rfl rfl) rfl rfl hl.1 rfl (lv_room (Nat.le_of_ble_eq_true rfl)) dX10_asItIs_12 ⟨Nat.le_of_ble_eq_true rfl, Nat.le_of_ble_eq_true rfl⟩) (fun r1 u2 H locs hw3 hP hD hS => ?_)
  try dsimp only at hw3
  have hP : va_P G vwCl [(b 15, .inl (cZ, 80, .inl (fun _ => 0))), (b 16, .inl (cI, 7, .inl (fun _ => 0))), (h0, oX10 b 0 0 0 0 0 0 0 0 (-1) 0 0 0 0 0 0 0 0 0), (b 1, .inl (cI, 149, .inl (fun _ => 0)))] H := hP
  have hD : va_D A [(b 15, .inl (cZ, 80, .inl (fun _ => 0))), (b 16, .inl (cI, 7, .inl (fun _ => 0))), (h0, oX10 b 0 0 0 0 0 0 0 0 (-1) 0 0 0 0 0 0 0 0 0), (b 1, .inl (cI, 149, .inl (fun _ => 0)))] := hD
  obtain rfl : r1 = 0 := hw3
  refine va_put (D := G) (ci := 10) (v := .int 0) (ty := .int) (C := RX10) (T := TX10) (N := 46) hx hb hts iG_X10 tyX10 tyX10_ok nmX10 hown hK hP hD hS 2 rfl rfl 18 (by decide) (hts _ w_1210) (fun _ h9 => h9) rfl (by decide +kernel) rfl rfl (Nat.le_of_ble_eq_true rfl) dX10_asItIs_15 (fun H locs hP hD hS => ?_)
  have hP : va_P G vwCl [(b 15, .inl (cZ, 80, .inl (fun _ => 0))), (b 16, .inl (cI, 7, .inl (fun _ => 0))), (h0, oX10 b 0 0 0 0 0 0 0 0 (-1) 0 0 0 0 0 0 0 0 0), (b 1, .inl (cI, 149, .inl (fun _ => 0)))] H := hP
  have hD : va_D A [(b 15, .inl (cZ, 80, .inl (fun _ => 0))), (b 16, .inl (cI, 7, .inl (fun _ => 0))), (h0, oX10 b 0 0 0 0 0 0 0 0 (-1) 0 0 0 0 0 0 0 0 0), (b 1, .inl (cI, 149, .inl (fun _ => 0)))] := hD
  refine lv_aload_n hx hb dX10_asItIs_18 rfl (lv_at hl 0 rfl) ?_
  refine lv_iconst (v := (-1)) hx hb dX10_asItIs_19 (by decide) ?_
  refine va_put (D := G) (ci := 10) (v := .int (-1)) (ty := .int) (C := RX10) (T := TX10) (N := 46) hx hb hts iG_X10 tyX10 tyX10_ok nmX10 hown hK hP hD hS 2 rfl rfl 19 (by decide) (hts _ w_1211) (fun _ h9 => h9) rfl (by decide +kernel) rfl rfl (Nat.le_of_ble_eq_true rfl) dX10_asItIs_20 (fun H locs hP hD hS => ?_)
  have hP : va_P G vwCl [(b 15, .inl (cZ, 80, .inl (fun _ => 0))), (b 16, .inl (cI, 7, .inl (fun _ => 0))), (h0, oX10 b 0 0 0 0 0 0 0 0 (-1) 0 0 (-1) 0 0 0 0 0 0), (b 1, .inl (cI, 149, .inl (fun _ => 0)))] H := hP
  have hD : va_D A [(b 15, .inl (cZ, 80, .inl (fun _ => 0))), (b 16, .inl (cI, 7, .inl (fun _ => 0))), (h0, oX10 b 0 0 0 0 0 0 0 0 (-1) 0 0 (-1) 0 0 0 0 0 0), (b 1, .inl (cI, 149, .inl (fun _ => 0)))] := hD
  refine lv_iconst (v := 0) hx hb dX10_asItIs_23 (by decide) ?_
  refine lv_istore_n (lv' := [(1, .int 0), (0, .ref h0)]) hx hb dX10_asItIs_24 rfl hl (by decide) rfl (fun ls hl => ?_)
  have lp4 : ∀ (n5 : Nat) (x6 : Int32), 0 ≤ x6.toInt → x6.toInt ≤ 80 → 80 - x6.toInt < (n5 : Int) → ∀ (H : Heap) (locs : List Loc), va_P G vwCl [(b 15, .inl (cZ, 80, .inl (fun _ => 0))), (b 16, .inl (cI, 7, .inl (fun _ => 0))), (h0, oX10 b 0 0 0 0 0 0 0 0 (-1) 0 0 (-1) 0 0 0 0 0 0), (b 1, .inl (cI, 149, .inl (fun _ => 0)))] H → va_D A [(b 15, .inl (cZ, 80, .inl (fun _ => 0))), (b 16, .inl (cI, 7, .inl (fun _ => 0))), (h0, oX10 b 0 0 0 0 0 0 0 0 (-1) 0 0 (-1) 0 0 0 0 0 0), (b 1, .inl (cI, 149, .inl (fun _ => 0)))] → va_S A s.heap H locs → ∀ (ls : Array Slot), lv_has ls 3 [(1, .int x6), (0, .ref h0)] → W p l e ({ frames := 2, cells := 0, slots := 0, locals := 40 } : Room) s m ([.ref h0] : List Value).toArray below meth c H locs 0 0 Q (F0 m 25 ls []) := by
    intro n5
    induction n5 with
    | zero =>
      intro x6 f6_0 f6_1 f6_2
      exact absurd f6_2 (by omega)
    | succ n5 ih7 =>
      intro x6 f6_0 f6_1 f6_2 H locs hP hD hS ls hl
      refine lv_iload_n hx hb dX10_asItIs_25 rfl (lv_at hl 0 rfl) ?_
      refine lv_bipush (v := 80) hx hb dX10_asItIs_26 (by decide) ?_
      refine lv_icmp_ge (tgt := 44) hx hb dX10_asItIs_28 (by decide) (fun c8 => ?_) (fun c8 => ?_)
      · have c8 := i_le ki_80 rfl c8
        refine lv_iconst (v := 0) hx hb dX10_asItIs_44 (by decide) ?_
        refine lv_istore_n (lv' := [(1, .int 0), (0, .ref h0)]) hx hb dX10_asItIs_45 rfl hl (by decide) rfl (fun ls hl => ?_)
        refine lv_iload_n hx hb dX10_asItIs_46 rfl (lv_at hl 0 rfl) ?_
        refine lv_aload_n hx hb dX10_asItIs_47 rfl (lv_at hl 1 rfl) ?_
        refine va_get (D := G) (ci := 10) (v := .ref (b 1)) (C := RX10) (T := TX10) (N := 46) hx hb hts iG_X10 hown hK hP 2 rfl rfl 1 (by decide) (hts _ w_1193) (fun _ h9 => h9) rfl dX10_asItIs_48 ?_
        refine lv_iconst (v := 5) hx hb dX10_asItIs_51 (by decide) ?_
        refine va_iald hx hb hK hP 3 0 rfl rfl (ix_in ki_5 (by omega) (by omega)) dX10_asItIs_52 ?_
        refine W.eq (g2 := F0 m 53 ls [.int 0, .int 0]) rfl ?_
        refine lv_icmp_ge (tgt := 77) hx hb dX10_asItIs_53 (by decide) (fun c9 => ?_) (fun c9 => absurd (by decide) c9)
        refine lv_iconst (v := 0) hx hb dX10_asItIs_77 (by decide) ?_
        refine lv_istore_n (lv' := [(1, .int 0), (0, .ref h0)]) hx hb dX10_asItIs_78 rfl hl (by decide) rfl (fun ls hl => ?_)
        refine lv_iload_n hx hb dX10_asItIs_79 rfl (lv_at hl 0 rfl) ?_
        refine lv_aload_n hx hb dX10_asItIs_80 rfl (lv_at hl 1 rfl) ?_
        refine va_get (D := G) (ci := 10) (v := .ref (b 1)) (C := RX10) (T := TX10) (N := 46) hx hb hts iG_X10 hown hK hP 2 rfl rfl 1 (by decide) (hts _ w_1193) (fun _ h9 => h9) rfl dX10_asItIs_81 ?_
        refine lv_bipush (v := 8) hx hb dX10_asItIs_84 (by decide) ?_
        refine va_iald hx hb hK hP 3 0 rfl rfl (ix_in ki_8 (by omega) (by omega)) dX10_asItIs_86 ?_
        refine W.eq (g2 := F0 m 87 ls [.int 0, .int 0]) rfl ?_
        refine lv_icmp_ge (tgt := 141) hx hb dX10_asItIs_87 (by decide) (fun c10 => ?_) (fun c10 => absurd (by decide) c10)
        refine lv_iconst (v := 0) hx hb dX10_asItIs_141 (by decide) ?_
        refine lv_istore_n (lv' := [(1, .int 0), (0, .ref h0)]) hx hb dX10_asItIs_142 rfl hl (by decide) rfl (fun ls hl => ?_)
        have lp11 : ∀ (n12 : Nat) (x13 : Int32), 0 ≤ x13.toInt → x13.toInt ≤ 7 → 7 - x13.toInt < (n12 : Int) → ∀ (H : Heap) (locs : List Loc), va_P G vwCl [(b 15, .inl (cZ, 80, .inl (fun _ => 0))), (b 16, .inl (cI, 7, .inl (fun _ => 0))), (h0, oX10 b 0 0 0 0 0 0 0 0 (-1) 0 0 (-1) 0 0 0 0 0 0), (b 1, .inl (cI, 149, .inl (fun _ => 0)))] H → va_D A [(b 15, .inl (cZ, 80, .inl (fun _ => 0))), (b 16, .inl (cI, 7, .inl (fun _ => 0))), (h0, oX10 b 0 0 0 0 0 0 0 0 (-1) 0 0 (-1) 0 0 0 0 0 0), (b 1, .inl (cI, 149, .inl (fun _ => 0)))] → va_S A s.heap H locs → ∀ (ls : Array Slot), lv_has ls 3 [(1, .int x13), (0, .ref h0)] → W p l e ({ frames := 2, cells := 0, slots := 0, locals := 40 } : Room) s m ([.ref h0] : List Value).toArray below meth c H locs 0 0 Q (F0 m 143 ls []) := by
          intro n12
          induction n12 with
          | zero =>
            intro x13 f13_0 f13_1 f13_2
            exact absurd f13_2 (by omega)
          | succ n12 ih14 =>
            intro x13 f13_0 f13_1 f13_2 H locs hP hD hS ls hl
            refine lv_iload_n hx hb dX10_asItIs_143 rfl (lv_at hl 0 rfl) ?_
            refine lv_bipush (v := 7) hx hb dX10_asItIs_144 (by decide) ?_
            refine lv_icmp_ge (tgt := 167) hx hb dX10_asItIs_146 (by decide) (fun c15 => ?_) (fun c15 => ?_)
            · have c15 := i_le ki_7 rfl c15
              exact hret _ _ _ _ () (hP.sub (ws' := [(h0, oX10 b 0 0 0 0 0 0 0 0 (-1) 0 0 (-1) 0 0 0 0 0 0), (b 1, .inl (cI, 149, .inl (fun _ => 0))), (b 15, .inl (cZ, 80, .inl (fun _ => 0))), (b 16, .inl (cI, 7, .inl (fun _ => 0)))]) [2, 3, 0, 1] rfl) (hD.sub (ws' := [(h0, oX10 b 0 0 0 0 0 0 0 0 (-1) 0 0 (-1) 0 0 0 0 0 0), (b 1, .inl (cI, 149, .inl (fun _ => 0))), (b 15, .inl (cZ, 80, .inl (fun _ => 0))), (b 16, .inl (cI, 7, .inl (fun _ => 0)))]) [2, 3, 0, 1] rfl rfl) hS dX10_asItIs_167 trivial
            · have c15 := i_nle ki_7 rfl c15
              refine lv_aload_n hx hb dX10_asItIs_149 rfl (lv_at hl 1 rfl) ?_
              refine va_get (D := G) (ci := 10) (v := .ref (b 16)) (C := RX10) (T := TX10) (N := 46) hx hb hts iG_X10 hown hK hP 2 rfl rfl 16 (by decide) (hts _ w_1208) (fun _ h9 => h9) rfl dX10_asItIs_150 ?_
              refine lv_iload_n hx hb dX10_asItIs_153 rfl (lv_at hl 0 rfl) ?_
              refine lv_aload_n hx hb dX10_asItIs_154 rfl (lv_at hl 1 rfl) ?_
              refine lv_iload_n hx hb dX10_asItIs_155 rfl (lv_at hl 0 rfl) ?_
              refine lv_iconst (v := 1) hx hb dX10_asItIs_156 (by decide) ?_
              refine k_i (wc := [(h0, oX10 b 0 0 0 0 0 0 0 0 (-1) 0 0 (-1) 0 0 0 0 0 0), (b 1, .inl (cI, 149, .inl (fun _ => 0)))]) (wr := [(b 15, .inl (cZ, 80, .inl (fun _ => 0))), (b 16, .inl (cI, 7, .inl (fun _ => 0)))]) hP hD hS hA [2, 3] [0, 1] rfl rfl rfl (by decide) (va_runV (As := [.int x13, .int 1]) (rest := [.int x13, .ref (b 16)]) ⟨hx, hb, hml, hown, hts⟩ (f_X10_widowOf l G cI cJ cZ cB cQ _ h0 b (-1) x13 1 x13.toInt 1 rfl ki_1 (by omega) (by omega) (by omega) (by omega)) (cwV 2 hts (gV w_1469 w_1471 wp_103 w_11 w_1472) rfl rfl rfl ⟨rfl, hd_X10_widowOf⟩ ⟨Nat.le_of_ble_eq_true rfl, Nat.le_of_ble_eq_true rfl⟩) (mV hK hZ hP hD [2, 3] rfl rfl [.int x13, .int 1] 2 10 rfl rfl) rfl rfl hl.1 rfl (lv_room (Nat.le_of_ble_eq_true rfl)) dX10_asItIs_157 ⟨Nat.le_of_ble_eq_true rfl, Nat.le_of_ble_eq_true rfl⟩) (fun r16 u17 H locs hw18 hP hD hS => ?_)
              try dsimp only at hw18
              have hP : va_P G vwCl [(b 15, .inl (cZ, 80, .inl (fun _ => 0))), (b 16, .inl (cI, 7, .inl (fun _ => 0))), (h0, oX10 b 0 0 0 0 0 0 0 0 (-1) 0 0 (-1) 0 0 0 0 0 0), (b 1, .inl (cI, 149, .inl (fun _ => 0)))] H := hP
              have hD : va_D A [(b 15, .inl (cZ, 80, .inl (fun _ => 0))), (b 16, .inl (cI, 7, .inl (fun _ => 0))), (h0, oX10 b 0 0 0 0 0 0 0 0 (-1) 0 0 (-1) 0 0 0 0 0 0), (b 1, .inl (cI, 149, .inl (fun _ => 0)))] := hD
              obtain rfl : r16 = 0 := hw18
              refine va_iast hx hb hK hP hD hS 1 0 rfl rfl (ix_in rfl (by omega) (by omega)) dX10_asItIs_160 (fun H locs hP hD hS => ?_)
              rw [upd_z] at hP hD
              have hP : va_P G vwCl [(b 15, .inl (cZ, 80, .inl (fun _ => 0))), (b 16, .inl (cI, 7, .inl (fun _ => 0))), (h0, oX10 b 0 0 0 0 0 0 0 0 (-1) 0 0 (-1) 0 0 0 0 0 0), (b 1, .inl (cI, 149, .inl (fun _ => 0)))] H := hP
              have hD : va_D A [(b 15, .inl (cZ, 80, .inl (fun _ => 0))), (b 16, .inl (cI, 7, .inl (fun _ => 0))), (h0, oX10 b 0 0 0 0 0 0 0 0 (-1) 0 0 (-1) 0 0 0 0 0 0), (b 1, .inl (cI, 149, .inl (fun _ => 0)))] := hD
              obtain ⟨v19, ev19⟩ : ∃ y : Int32, y = x13 + 1 := ⟨_, rfl⟩
              have tv19 : v19.toInt = x13.toInt + 1 := ti_add rfl ki_1 ev19 (by omega) (by omega)
              refine lv_iinc (v := v19) (lv' := [(1, .int v19), (0, .ref h0)]) hx hb dX10_asItIs_161 hl (k := 0) rfl (by rw [ev19]; rfl) (by decide) rfl (fun ls hl => ?_)
              refine lv_goto (tgt := 143) hx hb dX10_asItIs_164 (by decide) ?_
              exact ih14 v19 (by omega) (by omega) (by omega) _ _ hP hD hS ls (lv_sub hl [0, 1] rfl)
        exact lp11 8 0 (by rw [ki_0]; decide) (by rw [ki_0]; decide) (by rw [ki_0]; decide) _ _ hP hD hS ls (lv_sub hl [0, 1] rfl)
      · have c8 := i_nle ki_80 rfl c8
        refine lv_aload_n hx hb dX10_asItIs_31 rfl (lv_at hl 1 rfl) ?_
        refine va_get (D := G) (ci := 10) (v := .ref (b 15)) (C := RX10) (T := TX10) (N := 46) hx hb hts iG_X10 hown hK hP 2 rfl rfl 15 (by decide) (hts _ w_1207) (fun _ h9 => h9) rfl dX10_asItIs_32 ?_
        refine lv_iload_n hx hb dX10_asItIs_35 rfl (lv_at hl 0 rfl) ?_
        refine lv_iconst (v := 0) hx hb dX10_asItIs_36 (by decide) ?_
        refine va_zast hx hb hK hP hD hS 0 2 rfl rfl (ix_in rfl (by omega) (by omega)) dX10_asItIs_37 (fun H locs hP hD hS => ?_)
        rw [show vp_nar .boolean 0 = 0 from rfl] at hP hD
        rw [upd_z] at hP hD
        have hP : va_P G vwCl [(b 15, .inl (cZ, 80, .inl (fun _ => 0))), (b 16, .inl (cI, 7, .inl (fun _ => 0))), (h0, oX10 b 0 0 0 0 0 0 0 0 (-1) 0 0 (-1) 0 0 0 0 0 0), (b 1, .inl (cI, 149, .inl (fun _ => 0)))] H := hP
        have hD : va_D A [(b 15, .inl (cZ, 80, .inl (fun _ => 0))), (b 16, .inl (cI, 7, .inl (fun _ => 0))), (h0, oX10 b 0 0 0 0 0 0 0 0 (-1) 0 0 (-1) 0 0 0 0 0 0), (b 1, .inl (cI, 149, .inl (fun _ => 0)))] := hD
        obtain ⟨v20, ev20⟩ : ∃ y : Int32, y = x6 + 1 := ⟨_, rfl⟩
        have tv20 : v20.toInt = x6.toInt + 1 := ti_add rfl ki_1 ev20 (by omega) (by omega)
        refine lv_iinc (v := v20) (lv' := [(1, .int v20), (0, .ref h0)]) hx hb dX10_asItIs_38 hl (k := 0) rfl (by rw [ev20]; rfl) (by decide) rfl (fun ls hl => ?_)
        refine lv_goto (tgt := 25) hx hb dX10_asItIs_41 (by decide) ?_
        exact ih7 v20 (by omega) (by omega) (by omega) _ _ hP hD hS ls (lv_sub hl [0, 1] rfl)
  exact lp4 81 0 (by rw [ki_0]; decide) (by rw [ki_0]; decide) (by rw [ki_0]; decide) _ _ hP hD hS ls (lv_sub hl [0, 1] rfl)
set_option maxHeartbeats 4000000 in
set_option maxRecDepth 100000 in
theorem f_X10_keepYear (l : Launch) (G : va_G) (cI cJ cZ cB cQ : ClassId) (sz : Nat) (h0 : Nat) (b : Nat → Nat) (ow : Int32) : CV l yX10_keepYear (wl_ yX10_keepYear cX10_keepYear 3 none) ({ frames := 0, cells := 0, slots := 0, locals := 0 } : Room) G (TY cI cJ cZ cB cQ) [.ref h0, .int 0] [(h0, oX10 b 0 0 0 0 0 0 0 0 (-1) 0 0 ow 0 0 0 0 0 0), (b 21, .inl (cZ, 80, .inl (fun _ => 0))), (b 24, .inl (cI, 80, .inl (fun _ => 0))), (b 25, .inl (cI, 6, .inl (fun _ => 0))), (b 30, .inl (cZ, 1040, .inl (fun _ => 0))), (b 31, .inl (cI, 1040, .inl (fun _ => 0))), (b 32, .inl (cI, 78, .inl (fun _ => 0)))] sz (fun (u : Unit) => True) (fun _ : Unit => [(h0, oX10 b 0 0 0 0 0 0 0 0 (-1) 0 0 ow 0 0 0 0 0 0), (b 21, .inl (cZ, 80, .inl (fun _ => 0))), (b 24, .inl (cI, 80, .inl (fun _ => 0))), (b 25, .inl (cI, 6, .inl (fun _ => 0))), (b 30, .inl (cZ, 1040, .inl (fun _ => 0))), (b 31, .inl (cI, 1040, .inl (fun _ => 0))), (b 32, .inl (cI, 78, .inl (fun _ => 0)))]) 0 0 := by
  refine CV.go (cc := cX10_keepYear) (maxL := 3) (ret := none) (by decide) rfl (Nat.le_of_ble_eq_true rfl) ?_
  intro p e s m below meth c A ls Q hBd hret
  obtain ⟨hx, hb, hr, hml, hts, hown, hlk, hnm, hP, hK, hD, hA, hZ, hl⟩ := hBd
  have hown : s.vm.findClass RX10 = some m.cls := hown
  have hl : lv_has ls 3 [(0, .ref h0), (1, .int 0)] := hl
  have hS : va_S A s.heap s.heap [] := va_S.rf
  refine lv_iconst (v := 0) hx hb dX10_keepYear_0 (by decide) ?_
  refine lv_istore_n (lv' := [(2, .int 0), (0, .ref h0), (1, .int 0)]) hx hb dX10_keepYear_1 rfl hl (by decide) rfl (fun ls hl => ?_)
  have lp1 : ∀ (n2 : Nat) (x3 : Int32), 0 ≤ x3.toInt → x3.toInt ≤ 80 → 80 - x3.toInt < (n2 : Int) → ∀ (H : Heap) (locs : List Loc), va_P G vwCl [(h0, oX10 b 0 0 0 0 0 0 0 0 (-1) 0 0 ow 0 0 0 0 0 0), (b 21, .inl (cZ, 80, .inl (fun _ => 0))), (b 24, .inl (cI, 80, .inl (fun _ => 0))), (b 25, .inl (cI, 6, .inl (fun _ => 0))), (b 30, .inl (cZ, 1040, .inl (fun _ => 0))), (b 31, .inl (cI, 1040, .inl (fun _ => 0))), (b 32, .inl (cI, 78, .inl (fun _ => 0)))] H → va_D A [(h0, oX10 b 0 0 0 0 0 0 0 0 (-1) 0 0 ow 0 0 0 0 0 0), (b 21, .inl (cZ, 80, .inl (fun _ => 0))), (b 24, .inl (cI, 80, .inl (fun _ => 0))), (b 25, .inl (cI, 6, .inl (fun _ => 0))), (b 30, .inl (cZ, 1040, .inl (fun _ => 0))), (b 31, .inl (cI, 1040, .inl (fun _ => 0))), (b 32, .inl (cI, 78, .inl (fun _ => 0)))] → va_S A s.heap H locs → ∀ (ls : Array Slot), lv_has ls 3 [(2, .int x3), (0, .ref h0), (1, .int 0)] → W p l e ({ frames := 0, cells := 0, slots := 0, locals := 0 } : Room) s m ([.ref h0, .int 0] : List Value).toArray below meth c H locs 0 0 Q (F0 m 2 ls []) := by
    intro n2
    induction n2 with
    | zero =>
      intro x3 f3_0 f3_1 f3_2
      exact absurd f3_2 (by omega)
    | succ n2 ih4 =>
      intro x3 f3_0 f3_1 f3_2 H locs hP hD hS ls hl
      refine lv_iload_n hx hb dX10_keepYear_2 rfl (lv_at hl 0 rfl) ?_
      refine lv_bipush (v := 80) hx hb dX10_keepYear_3 (by decide) ?_
      refine lv_icmp_ge (tgt := 48) hx hb dX10_keepYear_5 (by decide) (fun c5 => ?_) (fun c5 => ?_)
      · have c5 := i_le ki_80 rfl c5
        refine lv_iconst (v := 0) hx hb dX10_keepYear_48 (by decide) ?_
        refine lv_istore_n (lv' := [(2, .int 0), (0, .ref h0), (1, .int 0)]) hx hb dX10_keepYear_49 rfl hl (by decide) rfl (fun ls hl => ?_)
        have lp6 : ∀ (n7 : Nat) (x8 : Int32), 0 ≤ x8.toInt → x8.toInt ≤ 6 → 6 - x8.toInt < (n7 : Int) → ∀ (H : Heap) (locs : List Loc), va_P G vwCl [(h0, oX10 b 0 0 0 0 0 0 0 0 (-1) 0 0 ow 0 0 0 0 0 0), (b 21, .inl (cZ, 80, .inl (fun _ => 0))), (b 24, .inl (cI, 80, .inl (fun _ => 0))), (b 25, .inl (cI, 6, .inl (fun _ => 0))), (b 30, .inl (cZ, 1040, .inl (fun _ => 0))), (b 31, .inl (cI, 1040, .inl (fun _ => 0))), (b 32, .inl (cI, 78, .inl (fun _ => 0)))] H → va_D A [(h0, oX10 b 0 0 0 0 0 0 0 0 (-1) 0 0 ow 0 0 0 0 0 0), (b 21, .inl (cZ, 80, .inl (fun _ => 0))), (b 24, .inl (cI, 80, .inl (fun _ => 0))), (b 25, .inl (cI, 6, .inl (fun _ => 0))), (b 30, .inl (cZ, 1040, .inl (fun _ => 0))), (b 31, .inl (cI, 1040, .inl (fun _ => 0))), (b 32, .inl (cI, 78, .inl (fun _ => 0)))] → va_S A s.heap H locs → ∀ (ls : Array Slot), lv_has ls 3 [(2, .int x8), (0, .ref h0), (1, .int 0)] → W p l e ({ frames := 0, cells := 0, slots := 0, locals := 0 } : Room) s m ([.ref h0, .int 0] : List Value).toArray below meth c H locs 0 0 Q (F0 m 50 ls []) := by
          intro n7
          induction n7 with
          | zero =>
            intro x8 f8_0 f8_1 f8_2
            exact absurd f8_2 (by omega)
          | succ n7 ih9 =>
            intro x8 f8_0 f8_1 f8_2 H locs hP hD hS ls hl
            refine lv_iload_n hx hb dX10_keepYear_50 rfl (lv_at hl 0 rfl) ?_
            refine lv_bipush (v := 6) hx hb dX10_keepYear_51 (by decide) ?_
            refine lv_icmp_ge (tgt := 79) hx hb dX10_keepYear_53 (by decide) (fun c10 => ?_) (fun c10 => ?_)
            · have c10 := i_le ki_6 rfl c10
              exact hret _ _ _ _ () hP hD hS dX10_keepYear_79 trivial
            · have c10 := i_nle ki_6 rfl c10
              refine lv_aload_n hx hb dX10_keepYear_56 rfl (lv_at hl 1 rfl) ?_
              refine va_get (D := G) (ci := 10) (v := .ref (b 32)) (C := RX10) (T := TX10) (N := 46) hx hb hts iG_X10 hown hK hP 0 rfl rfl 32 (by decide) (hts _ w_1224) (fun _ h9 => h9) rfl dX10_keepYear_57 ?_
              refine lv_bipush (v := 6) hx hb dX10_keepYear_60 (by decide) ?_
              refine lv_iload_n hx hb dX10_keepYear_62 rfl (lv_at hl 2 rfl) ?_
              refine lv_imul hx hb dX10_keepYear_63 ?_
              refine lv_topi (fun v11 ev11 => ?_)
              obtain rfl : v11 = 0 := ev11.trans (by decide)
              refine lv_iload_n hx hb dX10_keepYear_64 rfl (lv_at hl 0 rfl) ?_
              refine lv_iadd hx hb dX10_keepYear_65 ?_
              refine lv_topi (fun v12 ev12 => ?_)
              have tv12 : v12.toInt = 0 + x8.toInt := ti_add ki_0 rfl ev12 (by omega) (by omega)
              refine lv_aload_n hx hb dX10_keepYear_66 rfl (lv_at hl 1 rfl) ?_
              refine va_get (D := G) (ci := 10) (v := .ref (b 25)) (C := RX10) (T := TX10) (N := 46) hx hb hts iG_X10 hown hK hP 0 rfl rfl 25 (by decide) (hts _ w_1217) (fun _ h9 => h9) rfl dX10_keepYear_67 ?_
              refine lv_iload_n hx hb dX10_keepYear_70 rfl (lv_at hl 0 rfl) ?_
              refine va_iald hx hb hK hP 3 0 rfl rfl (ix_in rfl (by omega) (by omega)) dX10_keepYear_71 ?_
              refine W.eq (g2 := F0 m 72 ls [.int 0, .int v12, .ref (b 32)]) rfl ?_
              refine va_iast hx hb hK hP hD hS 6 0 rfl rfl (ix_in tv12 (by omega) (by omega)) dX10_keepYear_72 (fun H locs hP hD hS => ?_)
              rw [upd_z] at hP hD
              have hP : va_P G vwCl [(h0, oX10 b 0 0 0 0 0 0 0 0 (-1) 0 0 ow 0 0 0 0 0 0), (b 21, .inl (cZ, 80, .inl (fun _ => 0))), (b 24, .inl (cI, 80, .inl (fun _ => 0))), (b 25, .inl (cI, 6, .inl (fun _ => 0))), (b 30, .inl (cZ, 1040, .inl (fun _ => 0))), (b 31, .inl (cI, 1040, .inl (fun _ => 0))), (b 32, .inl (cI, 78, .inl (fun _ => 0)))] H := hP
              have hD : va_D A [(h0, oX10 b 0 0 0 0 0 0 0 0 (-1) 0 0 ow 0 0 0 0 0 0), (b 21, .inl (cZ, 80, .inl (fun _ => 0))), (b 24, .inl (cI, 80, .inl (fun _ => 0))), (b 25, .inl (cI, 6, .inl (fun _ => 0))), (b 30, .inl (cZ, 1040, .inl (fun _ => 0))), (b 31, .inl (cI, 1040, .inl (fun _ => 0))), (b 32, .inl (cI, 78, .inl (fun _ => 0)))] := hD
              obtain ⟨v13, ev13⟩ : ∃ y : Int32, y = x8 + 1 := ⟨_, rfl⟩
              have tv13 : v13.toInt = x8.toInt + 1 := ti_add rfl ki_1 ev13 (by omega) (by omega)
              refine lv_iinc (v := v13) (lv' := [(2, .int v13), (0, .ref h0), (1, .int 0)]) hx hb dX10_keepYear_73 hl (k := 0) rfl (by rw [ev13]; rfl) (by decide) rfl (fun ls hl => ?_)
              refine lv_goto (tgt := 50) hx hb dX10_keepYear_76 (by decide) ?_
              exact ih9 v13 (by omega) (by omega) (by omega) _ _ hP hD hS ls (lv_sub hl [0, 1, 2] rfl)
        exact lp6 7 0 (by rw [ki_0]; decide) (by rw [ki_0]; decide) (by rw [ki_0]; decide) _ _ hP hD hS ls (lv_sub hl [0, 1, 2] rfl)
      · have c5 := i_nle ki_80 rfl c5
        refine lv_aload_n hx hb dX10_keepYear_8 rfl (lv_at hl 1 rfl) ?_
        refine va_get (D := G) (ci := 10) (v := .ref (b 30)) (C := RX10) (T := TX10) (N := 46) hx hb hts iG_X10 hown hK hP 0 rfl rfl 30 (by decide) (hts _ w_1222) (fun _ h9 => h9) rfl dX10_keepYear_9 ?_
        refine lv_bipush (v := 80) hx hb dX10_keepYear_12 (by decide) ?_
        refine lv_iload_n hx hb dX10_keepYear_14 rfl (lv_at hl 2 rfl) ?_
        refine lv_imul hx hb dX10_keepYear_15 ?_
        refine lv_topi (fun v14 ev14 => ?_)
        obtain rfl : v14 = 0 := ev14.trans (by decide)
        refine lv_iload_n hx hb dX10_keepYear_16 rfl (lv_at hl 0 rfl) ?_
        refine lv_iadd hx hb dX10_keepYear_17 ?_
        refine lv_topi (fun v15 ev15 => ?_)
        have tv15 : v15.toInt = 0 + x3.toInt := ti_add ki_0 rfl ev15 (by omega) (by omega)
        refine lv_aload_n hx hb dX10_keepYear_18 rfl (lv_at hl 1 rfl) ?_
        refine va_get (D := G) (ci := 10) (v := .ref (b 21)) (C := RX10) (T := TX10) (N := 46) hx hb hts iG_X10 hown hK hP 0 rfl rfl 21 (by decide) (hts _ w_1213) (fun _ h9 => h9) rfl dX10_keepYear_19 ?_
        refine lv_iload_n hx hb dX10_keepYear_22 rfl (lv_at hl 0 rfl) ?_
        refine va_zald hx hb hK hP 1 2 rfl rfl (ix_in rfl (by omega) (by omega)) dX10_keepYear_23 ?_
        refine W.eq (g2 := F0 m 24 ls [.int 0, .int v15, .ref (b 30)]) rfl ?_
        refine va_zast hx hb hK hP hD hS 4 2 rfl rfl (ix_in tv15 (by omega) (by omega)) dX10_keepYear_24 (fun H locs hP hD hS => ?_)
        rw [show vp_nar .boolean 0 = 0 from rfl] at hP hD
        rw [upd_z] at hP hD
        have hP : va_P G vwCl [(h0, oX10 b 0 0 0 0 0 0 0 0 (-1) 0 0 ow 0 0 0 0 0 0), (b 21, .inl (cZ, 80, .inl (fun _ => 0))), (b 24, .inl (cI, 80, .inl (fun _ => 0))), (b 25, .inl (cI, 6, .inl (fun _ => 0))), (b 30, .inl (cZ, 1040, .inl (fun _ => 0))), (b 31, .inl (cI, 1040, .inl (fun _ => 0))), (b 32, .inl (cI, 78, .inl (fun _ => 0)))] H := hP
        have hD : va_D A [(h0, oX10 b 0 0 0 0 0 0 0 0 (-1) 0 0 ow 0 0 0 0 0 0), (b 21, .inl (cZ, 80, .inl (fun _ => 0))), (b 24, .inl (cI, 80, .inl (fun _ => 0))), (b 25, .inl (cI, 6, .inl (fun _ => 0))), (b 30, .inl (cZ, 1040, .inl (fun _ => 0))), (b 31, .inl (cI, 1040, .inl (fun _ => 0))), (b 32, .inl (cI, 78, .inl (fun _ => 0)))] := hD
        refine lv_aload_n hx hb dX10_keepYear_25 rfl (lv_at hl 1 rfl) ?_
        refine va_get (D := G) (ci := 10) (v := .ref (b 31)) (C := RX10) (T := TX10) (N := 46) hx hb hts iG_X10 hown hK hP 0 rfl rfl 31 (by decide) (hts _ w_1223) (fun _ h9 => h9) rfl dX10_keepYear_26 ?_
        refine lv_bipush (v := 80) hx hb dX10_keepYear_29 (by decide) ?_
        refine lv_iload_n hx hb dX10_keepYear_31 rfl (lv_at hl 2 rfl) ?_
        refine lv_imul hx hb dX10_keepYear_32 ?_
        refine lv_topi (fun v16 ev16 => ?_)
        obtain rfl : v16 = 0 := ev16.trans (by decide)
        refine lv_iload_n hx hb dX10_keepYear_33 rfl (lv_at hl 0 rfl) ?_
        refine lv_iadd hx hb dX10_keepYear_34 ?_
        refine lv_topi (fun v17 ev17 => ?_)
        have tv17 : v17.toInt = 0 + x3.toInt := ti_add ki_0 rfl ev17 (by omega) (by omega)
        refine lv_aload_n hx hb dX10_keepYear_35 rfl (lv_at hl 1 rfl) ?_
        refine va_get (D := G) (ci := 10) (v := .ref (b 24)) (C := RX10) (T := TX10) (N := 46) hx hb hts iG_X10 hown hK hP 0 rfl rfl 24 (by decide) (hts _ w_1216) (fun _ h9 => h9) rfl dX10_keepYear_36 ?_
        refine lv_iload_n hx hb dX10_keepYear_39 rfl (lv_at hl 0 rfl) ?_
        refine va_iald hx hb hK hP 2 0 rfl rfl (ix_in rfl (by omega) (by omega)) dX10_keepYear_40 ?_
        refine W.eq (g2 := F0 m 41 ls [.int 0, .int v17, .ref (b 31)]) rfl ?_
        refine va_iast hx hb hK hP hD hS 5 0 rfl rfl (ix_in tv17 (by omega) (by omega)) dX10_keepYear_41 (fun H locs hP hD hS => ?_)
        rw [upd_z] at hP hD
        have hP : va_P G vwCl [(h0, oX10 b 0 0 0 0 0 0 0 0 (-1) 0 0 ow 0 0 0 0 0 0), (b 21, .inl (cZ, 80, .inl (fun _ => 0))), (b 24, .inl (cI, 80, .inl (fun _ => 0))), (b 25, .inl (cI, 6, .inl (fun _ => 0))), (b 30, .inl (cZ, 1040, .inl (fun _ => 0))), (b 31, .inl (cI, 1040, .inl (fun _ => 0))), (b 32, .inl (cI, 78, .inl (fun _ => 0)))] H := hP
        have hD : va_D A [(h0, oX10 b 0 0 0 0 0 0 0 0 (-1) 0 0 ow 0 0 0 0 0 0), (b 21, .inl (cZ, 80, .inl (fun _ => 0))), (b 24, .inl (cI, 80, .inl (fun _ => 0))), (b 25, .inl (cI, 6, .inl (fun _ => 0))), (b 30, .inl (cZ, 1040, .inl (fun _ => 0))), (b 31, .inl (cI, 1040, .inl (fun _ => 0))), (b 32, .inl (cI, 78, .inl (fun _ => 0)))] := hD
        obtain ⟨v18, ev18⟩ : ∃ y : Int32, y = x3 + 1 := ⟨_, rfl⟩
        have tv18 : v18.toInt = x3.toInt + 1 := ti_add rfl ki_1 ev18 (by omega) (by omega)
        refine lv_iinc (v := v18) (lv' := [(2, .int v18), (0, .ref h0), (1, .int 0)]) hx hb dX10_keepYear_42 hl (k := 0) rfl (by rw [ev18]; rfl) (by decide) rfl (fun ls hl => ?_)
        refine lv_goto (tgt := 2) hx hb dX10_keepYear_45 (by decide) ?_
        exact ih4 v18 (by omega) (by omega) (by omega) _ _ hP hD hS ls (lv_sub hl [0, 1, 2] rfl)
  exact lp1 81 0 (by rw [ki_0]; decide) (by rw [ki_0]; decide) (by rw [ki_0]; decide) _ _ hP hD hS ls (lv_sub hl [0, 1, 2] rfl)
set_option maxHeartbeats 4000000 in
set_option maxRecDepth 100000 in
theorem f_X10_goAll (l : Launch) (G : va_G) (cI cJ cZ cB cQ : ClassId) (sz : Nat) (h0 : Nat) (b : Nat → Nat) (ow : Int32) : CV l yX10_goAll (wl_ yX10_goAll cX10_goAll 3 none) ({ frames := 1, cells := 0, slots := 0, locals := 22 } : Room) G (TY cI cJ cZ cB cQ) [.ref h0] [(h0, oX10 b 0 0 0 0 0 0 0 0 (-1) 0 0 ow 0 0 0 0 0 0), (b 1, .inl (cI, 149, .inl (fun _ => 0))), (b 21, .inl (cZ, 80, .inl (fun _ => 0))), (b 24, .inl (cI, 80, .inl (fun _ => 0))), (b 25, .inl (cI, 6, .inl (fun _ => 0))), (b 29, .inl (cI, 6, .inl (fun _ => 0))), (b 30, .inl (cZ, 1040, .inl (fun _ => 0))), (b 31, .inl (cI, 1040, .inl (fun _ => 0))), (b 32, .inl (cI, 78, .inl (fun _ => 0))), (b 27, .inl (cI, 7, .inl (fun _ => 0)))] sz (fun (u : (Nat → Int32)) => True) (fun u : (Nat → Int32) => [(h0, oX10 b 0 0 0 0 0 0 0 0 (-1) 0 0 ow 0 0 0 0 0 0), (b 1, .inl (cI, 149, .inl (fun _ => 0))), (b 21, .inl (cZ, 80, .inl (fun _ => 0))), (b 24, .inl (cI, 80, .inl (fun _ => 0))), (b 25, .inl (cI, 6, .inl (fun _ => 0))), (b 29, .inl (cI, 6, .inl (fun _ => 0))), (b 30, .inl (cZ, 1040, .inl (fun _ => 0))), (b 31, .inl (cI, 1040, .inl (fun _ => 0))), (b 32, .inl (cI, 78, .inl (fun _ => 0))), (b 27, .inl (cI, 7, .inl u))]) 0 0 := by
  refine CV.go (cc := cX10_goAll) (maxL := 3) (ret := none) (by decide) rfl (Nat.le_of_ble_eq_true rfl) ?_
  intro p e s m below meth c A ls Q hBd hret
  obtain ⟨hx, hb, hr, hml, hts, hown, hlk, hnm, hP, hK, hD, hA, hZ, hl⟩ := hBd
  have hown : s.vm.findClass RX10 = some m.cls := hown
  have hl : lv_has ls 3 [(0, .ref h0)] := hl
  have hS : va_S A s.heap s.heap [] := va_S.rf
  refine lv_iconst (v := 0) hx hb dX10_goAll_0 (by decide) ?_
  refine lv_istore_n (lv' := [(1, .int 0), (0, .ref h0)]) hx hb dX10_goAll_1 rfl hl (by decide) rfl (fun ls hl => ?_)
  have lp1 : ∀ (n2 : Nat) (x3 : Int32), 0 ≤ x3.toInt → x3.toInt ≤ 80 → 80 - x3.toInt < (n2 : Int) → ∀ (H : Heap) (locs : List Loc), va_P G vwCl [(h0, oX10 b 0 0 0 0 0 0 0 0 (-1) 0 0 ow 0 0 0 0 0 0), (b 1, .inl (cI, 149, .inl (fun _ => 0))), (b 21, .inl (cZ, 80, .inl (fun _ => 0))), (b 24, .inl (cI, 80, .inl (fun _ => 0))), (b 25, .inl (cI, 6, .inl (fun _ => 0))), (b 29, .inl (cI, 6, .inl (fun _ => 0))), (b 30, .inl (cZ, 1040, .inl (fun _ => 0))), (b 31, .inl (cI, 1040, .inl (fun _ => 0))), (b 32, .inl (cI, 78, .inl (fun _ => 0))), (b 27, .inl (cI, 7, .inl (fun _ => 0)))] H → va_D A [(h0, oX10 b 0 0 0 0 0 0 0 0 (-1) 0 0 ow 0 0 0 0 0 0), (b 1, .inl (cI, 149, .inl (fun _ => 0))), (b 21, .inl (cZ, 80, .inl (fun _ => 0))), (b 24, .inl (cI, 80, .inl (fun _ => 0))), (b 25, .inl (cI, 6, .inl (fun _ => 0))), (b 29, .inl (cI, 6, .inl (fun _ => 0))), (b 30, .inl (cZ, 1040, .inl (fun _ => 0))), (b 31, .inl (cI, 1040, .inl (fun _ => 0))), (b 32, .inl (cI, 78, .inl (fun _ => 0))), (b 27, .inl (cI, 7, .inl (fun _ => 0)))] → va_S A s.heap H locs → ∀ (ls : Array Slot), lv_has ls 3 [(1, .int x3), (0, .ref h0)] → W p l e ({ frames := 1, cells := 0, slots := 0, locals := 22 } : Room) s m ([.ref h0] : List Value).toArray below meth c H locs 0 0 Q (F0 m 2 ls []) := by
    intro n2
    induction n2 with
    | zero =>
      intro x3 f3_0 f3_1 f3_2
      exact absurd f3_2 (by omega)
    | succ n2 ih4 =>
      intro x3 f3_0 f3_1 f3_2 H locs hP hD hS ls hl
      refine lv_iload_n hx hb dX10_goAll_2 rfl (lv_at hl 0 rfl) ?_
      refine lv_bipush (v := 80) hx hb dX10_goAll_3 (by decide) ?_
      refine lv_icmp_ge (tgt := 28) hx hb dX10_goAll_5 (by decide) (fun c5 => ?_) (fun c5 => ?_)
      · have c5 := i_le ki_80 rfl c5
        refine lv_iconst (v := 0) hx hb dX10_goAll_28 (by decide) ?_
        refine lv_istore_n (lv' := [(1, .int 0), (0, .ref h0)]) hx hb dX10_goAll_29 rfl hl (by decide) rfl (fun ls hl => ?_)
        have lp6 : ∀ (n7 : Nat) (x8 : Int32), 0 ≤ x8.toInt → x8.toInt ≤ 6 → 6 - x8.toInt < (n7 : Int) → ∀ (H : Heap) (locs : List Loc), va_P G vwCl [(h0, oX10 b 0 0 0 0 0 0 0 0 (-1) 0 0 ow 0 0 0 0 0 0), (b 1, .inl (cI, 149, .inl (fun _ => 0))), (b 21, .inl (cZ, 80, .inl (fun _ => 0))), (b 24, .inl (cI, 80, .inl (fun _ => 0))), (b 25, .inl (cI, 6, .inl (fun _ => 0))), (b 29, .inl (cI, 6, .inl (fun _ => 0))), (b 30, .inl (cZ, 1040, .inl (fun _ => 0))), (b 31, .inl (cI, 1040, .inl (fun _ => 0))), (b 32, .inl (cI, 78, .inl (fun _ => 0))), (b 27, .inl (cI, 7, .inl (fun _ => 0)))] H → va_D A [(h0, oX10 b 0 0 0 0 0 0 0 0 (-1) 0 0 ow 0 0 0 0 0 0), (b 1, .inl (cI, 149, .inl (fun _ => 0))), (b 21, .inl (cZ, 80, .inl (fun _ => 0))), (b 24, .inl (cI, 80, .inl (fun _ => 0))), (b 25, .inl (cI, 6, .inl (fun _ => 0))), (b 29, .inl (cI, 6, .inl (fun _ => 0))), (b 30, .inl (cZ, 1040, .inl (fun _ => 0))), (b 31, .inl (cI, 1040, .inl (fun _ => 0))), (b 32, .inl (cI, 78, .inl (fun _ => 0))), (b 27, .inl (cI, 7, .inl (fun _ => 0)))] → va_S A s.heap H locs → ∀ (ls : Array Slot), lv_has ls 3 [(1, .int x8), (0, .ref h0)] → W p l e ({ frames := 1, cells := 0, slots := 0, locals := 22 } : Room) s m ([.ref h0] : List Value).toArray below meth c H locs 0 0 Q (F0 m 30 ls []) := by
          intro n7
          induction n7 with
          | zero =>
            intro x8 f8_0 f8_1 f8_2
            exact absurd f8_2 (by omega)
          | succ n7 ih9 =>
            intro x8 f8_0 f8_1 f8_2 H locs hP hD hS ls hl
            refine lv_iload_n hx hb dX10_goAll_30 rfl (lv_at hl 0 rfl) ?_
            refine lv_bipush (v := 6) hx hb dX10_goAll_31 (by decide) ?_
            refine lv_icmp_ge (tgt := 64) hx hb dX10_goAll_33 (by decide) (fun c10 => ?_) (fun c10 => ?_)
            · have c10 := i_le ki_6 rfl c10
              refine lv_iconst (v := 0) hx hb dX10_goAll_64 (by decide) ?_
              refine lv_istore_n (lv' := [(1, .int 0), (0, .ref h0)]) hx hb dX10_goAll_65 rfl hl (by decide) rfl (fun ls hl => ?_)
              have lp11 : ∀ (n12 : Nat) (x13 : Int32) (f14 : Nat → Int32), 0 ≤ x13.toInt → x13.toInt ≤ 7 → 7 - x13.toInt < (n12 : Int) → ∀ (H : Heap) (locs : List Loc), va_P G vwCl [(h0, oX10 b 0 0 0 0 0 0 0 0 (-1) 0 0 ow 0 0 0 0 0 0), (b 1, .inl (cI, 149, .inl (fun _ => 0))), (b 21, .inl (cZ, 80, .inl (fun _ => 0))), (b 24, .inl (cI, 80, .inl (fun _ => 0))), (b 25, .inl (cI, 6, .inl (fun _ => 0))), (b 29, .inl (cI, 6, .inl (fun _ => 0))), (b 30, .inl (cZ, 1040, .inl (fun _ => 0))), (b 31, .inl (cI, 1040, .inl (fun _ => 0))), (b 32, .inl (cI, 78, .inl (fun _ => 0))), (b 27, .inl (cI, 7, .inl f14))] H → va_D A [(h0, oX10 b 0 0 0 0 0 0 0 0 (-1) 0 0 ow 0 0 0 0 0 0), (b 1, .inl (cI, 149, .inl (fun _ => 0))), (b 21, .inl (cZ, 80, .inl (fun _ => 0))), (b 24, .inl (cI, 80, .inl (fun _ => 0))), (b 25, .inl (cI, 6, .inl (fun _ => 0))), (b 29, .inl (cI, 6, .inl (fun _ => 0))), (b 30, .inl (cZ, 1040, .inl (fun _ => 0))), (b 31, .inl (cI, 1040, .inl (fun _ => 0))), (b 32, .inl (cI, 78, .inl (fun _ => 0))), (b 27, .inl (cI, 7, .inl f14))] → va_S A s.heap H locs → ∀ (ls : Array Slot), lv_has ls 3 [(1, .int x13), (0, .ref h0)] → W p l e ({ frames := 1, cells := 0, slots := 0, locals := 22 } : Room) s m ([.ref h0] : List Value).toArray below meth c H locs 0 0 Q (F0 m 66 ls []) := by
                intro n12
                induction n12 with
                | zero =>
                  intro x13 f14 f14_0 f14_1 f14_2
                  exact absurd f14_2 (by omega)
                | succ n12 ih15 =>
                  intro x13 f14 f14_0 f14_1 f14_2 H locs hP hD hS ls hl
                  refine lv_iload_n hx hb dX10_goAll_66 rfl (lv_at hl 0 rfl) ?_
                  refine lv_bipush (v := 7) hx hb dX10_goAll_67 (by decide) ?_
                  refine lv_icmp_ge (tgt := 85) hx hb dX10_goAll_69 (by decide) (fun c16 => ?_) (fun c16 => ?_)
                  · have c16 := i_le ki_7 rfl c16
                    refine lv_iconst (v := 0) hx hb dX10_goAll_85 (by decide) ?_
                    refine lv_istore_n (lv' := [(1, .int 0), (0, .ref h0)]) hx hb dX10_goAll_86 rfl hl (by decide) rfl (fun ls hl => ?_)
                    refine lv_iload_n hx hb dX10_goAll_87 rfl (lv_at hl 0 rfl) ?_
                    refine lv_aload_n hx hb dX10_goAll_88 rfl (lv_at hl 1 rfl) ?_
                    refine k_i (wc := [(h0, oX10 b 0 0 0 0 0 0 0 0 (-1) 0 0 ow 0 0 0 0 0 0), (b 1, .inl (cI, 149, .inl (fun _ => 0)))]) (wr := [(b 21, .inl (cZ, 80, .inl (fun _ => 0))), (b 24, .inl (cI, 80, .inl (fun _ => 0))), (b 25, .inl (cI, 6, .inl (fun _ => 0))), (b 29, .inl (cI, 6, .inl (fun _ => 0))), (b 30, .inl (cZ, 1040, .inl (fun _ => 0))), (b 31, .inl (cI, 1040, .inl (fun _ => 0))), (b 32, .inl (cI, 78, .inl (fun _ => 0))), (b 27, .inl (cI, 7, .inl f14))]) hP hD hS hA [0, 1] [2, 3, 4, 5, 6, 7, 8, 9] rfl rfl rfl (by decide) (va_runV (As := []) (rest := [.int 0]) ⟨hx, hb, hml, hown, hts⟩ (f_X10_years l G cI cJ cZ cB cQ _ h0 b ow) (cwV 0 hts (gV w_1501 w_1503 wp_109 w_11 w_1504) rfl rfl rfl ⟨rfl, hd_X10_years⟩ ⟨Nat.le_of_ble_eq_true rfl, Nat.le_of_ble_eq_true rfl⟩) (mV hK hZ hP hD [0, 1] rfl rfl [] 0 10 rfl rfl) rfl rfl hl.1 rfl (lv_room (Nat.le_of_ble_eq_true rfl)) dX10_goAll_89 ⟨Nat.le_of_ble_eq_true rfl, Nat.le_of_ble_eq_true rfl⟩) (fun r17 u18 H locs hw19 hP hD hS => ?_)
                    try dsimp only at hw19
                    have hP : va_P G vwCl [(b 21, .inl (cZ, 80, .inl (fun _ => 0))), (b 24, .inl (cI, 80, .inl (fun _ => 0))), (b 25, .inl (cI, 6, .inl (fun _ => 0))), (b 29, .inl (cI, 6, .inl (fun _ => 0))), (b 30, .inl (cZ, 1040, .inl (fun _ => 0))), (b 31, .inl (cI, 1040, .inl (fun _ => 0))), (b 32, .inl (cI, 78, .inl (fun _ => 0))), (b 27, .inl (cI, 7, .inl f14)), (h0, oX10 b 0 0 0 0 0 0 0 0 (-1) 0 0 ow 0 0 0 0 0 0), (b 1, .inl (cI, 149, .inl (fun _ => 0)))] H := hP
                    have hD : va_D A [(b 21, .inl (cZ, 80, .inl (fun _ => 0))), (b 24, .inl (cI, 80, .inl (fun _ => 0))), (b 25, .inl (cI, 6, .inl (fun _ => 0))), (b 29, .inl (cI, 6, .inl (fun _ => 0))), (b 30, .inl (cZ, 1040, .inl (fun _ => 0))), (b 31, .inl (cI, 1040, .inl (fun _ => 0))), (b 32, .inl (cI, 78, .inl (fun _ => 0))), (b 27, .inl (cI, 7, .inl f14)), (h0, oX10 b 0 0 0 0 0 0 0 0 (-1) 0 0 ow 0 0 0 0 0 0), (b 1, .inl (cI, 149, .inl (fun _ => 0)))] := hD
                    obtain rfl : r17 = 0 := hw19
                    refine lv_icmp_gt (tgt := 157) hx hb dX10_goAll_92 (by decide) (fun c20 => absurd c20 (by decide)) (fun c20 => ?_)
                    refine lv_aload_n hx hb dX10_goAll_95 rfl (lv_at hl 1 rfl) ?_
                    refine lv_iload_n hx hb dX10_goAll_96 rfl (lv_at hl 0 rfl) ?_
                    refine k_v (wc := [(h0, oX10 b 0 0 0 0 0 0 0 0 (-1) 0 0 ow 0 0 0 0 0 0), (b 21, .inl (cZ, 80, .inl (fun _ => 0))), (b 24, .inl (cI, 80, .inl (fun _ => 0))), (b 25, .inl (cI, 6, .inl (fun _ => 0))), (b 30, .inl (cZ, 1040, .inl (fun _ => 0))), (b 31, .inl (cI, 1040, .inl (fun _ => 0))), (b 32, .inl (cI, 78, .inl (fun _ => 0)))]) (wr := [(b 29, .inl (cI, 6, .inl (fun _ => 0))), (b 27, .inl (cI, 7, .inl f14)), (b 1, .inl (cI, 149, .inl (fun _ => 0)))]) hP hD hS hA [8, 0, 1, 2, 4, 5, 6] [3, 7, 9] rfl rfl rfl (by decide) (va_runV (As := [.int 0]) (rest := []) ⟨hx, hb, hml, hown, hts⟩ (f_X10_keepYear l G cI cJ cZ cB cQ _ h0 b ow) (cwV 1 hts (gV w_1505 w_1507 wp_110 w_11 w_1508) rfl rfl rfl ⟨rfl, hd_X10_keepYear⟩ ⟨Nat.le_of_ble_eq_true rfl, Nat.le_of_ble_eq_true rfl⟩) (mV hK hZ hP hD [8, 0, 1, 2, 4, 5, 6] rfl rfl [.int 0] 8 10 rfl rfl) rfl rfl hl.1 rfl (lv_room (Nat.le_of_ble_eq_true rfl)) dX10_goAll_97 ⟨Nat.le_of_ble_eq_true rfl, Nat.le_of_ble_eq_true rfl⟩) (fun u22 H locs hw23 hP hD hS => ?_)
                    have hP : va_P G vwCl [(b 29, .inl (cI, 6, .inl (fun _ => 0))), (b 27, .inl (cI, 7, .inl f14)), (b 1, .inl (cI, 149, .inl (fun _ => 0))), (h0, oX10 b 0 0 0 0 0 0 0 0 (-1) 0 0 ow 0 0 0 0 0 0), (b 21, .inl (cZ, 80, .inl (fun _ => 0))), (b 24, .inl (cI, 80, .inl (fun _ => 0))), (b 25, .inl (cI, 6, .inl (fun _ => 0))), (b 30, .inl (cZ, 1040, .inl (fun _ => 0))), (b 31, .inl (cI, 1040, .inl (fun _ => 0))), (b 32, .inl (cI, 78, .inl (fun _ => 0)))] H := hP
                    have hD : va_D A [(b 29, .inl (cI, 6, .inl (fun _ => 0))), (b 27, .inl (cI, 7, .inl f14)), (b 1, .inl (cI, 149, .inl (fun _ => 0))), (h0, oX10 b 0 0 0 0 0 0 0 0 (-1) 0 0 ow 0 0 0 0 0 0), (b 21, .inl (cZ, 80, .inl (fun _ => 0))), (b 24, .inl (cI, 80, .inl (fun _ => 0))), (b 25, .inl (cI, 6, .inl (fun _ => 0))), (b 30, .inl (cZ, 1040, .inl (fun _ => 0))), (b 31, .inl (cI, 1040, .inl (fun _ => 0))), (b 32, .inl (cI, 78, .inl (fun _ => 0)))] := hD
                    refine lv_iconst (v := 0) hx hb dX10_goAll_100 (by decide) ?_
                    refine lv_istore_n (lv' := [(2, .int 0), (1, .int 0), (0, .ref h0)]) hx hb dX10_goAll_101 rfl hl (by decide) rfl (fun ls hl => ?_)
                    refine lv_iload_n hx hb dX10_goAll_102 rfl (lv_at hl 0 rfl) ?_
                    refine lv_aload_n hx hb dX10_goAll_103 rfl (lv_at hl 2 rfl) ?_
                    refine k_i (wc := [(h0, oX10 b 0 0 0 0 0 0 0 0 (-1) 0 0 ow 0 0 0 0 0 0), (b 1, .inl (cI, 149, .inl (fun _ => 0)))]) (wr := [(b 29, .inl (cI, 6, .inl (fun _ => 0))), (b 27, .inl (cI, 7, .inl f14)), (b 21, .inl (cZ, 80, .inl (fun _ => 0))), (b 24, .inl (cI, 80, .inl (fun _ => 0))), (b 25, .inl (cI, 6, .inl (fun _ => 0))), (b 30, .inl (cZ, 1040, .inl (fun _ => 0))), (b 31, .inl (cI, 1040, .inl (fun _ => 0))), (b 32, .inl (cI, 78, .inl (fun _ => 0)))]) hP hD hS hA [3, 2] [0, 1, 4, 5, 6, 7, 8, 9] rfl rfl rfl (by decide) (va_runV (As := []) (rest := [.int 0]) ⟨hx, hb, hml, hown, hts⟩ (f_X10_widows l G cI cJ cZ cB cQ _ h0 b ow) (cwV 0 hts (gV w_1464 w_1466 wp_102 w_11 w_1467) rfl rfl rfl ⟨rfl, hd_X10_widows⟩ ⟨Nat.le_of_ble_eq_true rfl, Nat.le_of_ble_eq_true rfl⟩) (mV hK hZ hP hD [3, 2] rfl rfl [] 3 10 rfl rfl) rfl rfl hl.1 rfl (lv_room (Nat.le_of_ble_eq_true rfl)) dX10_goAll_104 ⟨Nat.le_of_ble_eq_true rfl, Nat.le_of_ble_eq_true rfl⟩) (fun r24 u25 H locs hw26 hP hD hS => ?_)
                    try dsimp only at hw26
                    have hP : va_P G vwCl [(b 29, .inl (cI, 6, .inl (fun _ => 0))), (b 27, .inl (cI, 7, .inl f14)), (b 21, .inl (cZ, 80, .inl (fun _ => 0))), (b 24, .inl (cI, 80, .inl (fun _ => 0))), (b 25, .inl (cI, 6, .inl (fun _ => 0))), (b 30, .inl (cZ, 1040, .inl (fun _ => 0))), (b 31, .inl (cI, 1040, .inl (fun _ => 0))), (b 32, .inl (cI, 78, .inl (fun _ => 0))), (h0, oX10 b 0 0 0 0 0 0 0 0 (-1) 0 0 ow 0 0 0 0 0 0), (b 1, .inl (cI, 149, .inl (fun _ => 0)))] H := hP
                    have hD : va_D A [(b 29, .inl (cI, 6, .inl (fun _ => 0))), (b 27, .inl (cI, 7, .inl f14)), (b 21, .inl (cZ, 80, .inl (fun _ => 0))), (b 24, .inl (cI, 80, .inl (fun _ => 0))), (b 25, .inl (cI, 6, .inl (fun _ => 0))), (b 30, .inl (cZ, 1040, .inl (fun _ => 0))), (b 31, .inl (cI, 1040, .inl (fun _ => 0))), (b 32, .inl (cI, 78, .inl (fun _ => 0))), (h0, oX10 b 0 0 0 0 0 0 0 0 (-1) 0 0 ow 0 0 0 0 0 0), (b 1, .inl (cI, 149, .inl (fun _ => 0)))] := hD
                    obtain rfl : r24 = 0 := hw26
                    refine lv_icmp_ge (tgt := 151) hx hb dX10_goAll_107 (by decide) (fun c27 => ?_) (fun c27 => absurd (by decide) c27)
                    refine lv_iinc (v := 1) (lv' := [(1, .int 1), (2, .int 0), (0, .ref h0)]) hx hb dX10_goAll_151 hl (k := 1) rfl (by decide) (by decide) rfl (fun ls hl => ?_)
                    refine lv_goto (tgt := 87) hx hb dX10_goAll_154 (by decide) ?_
                    refine lv_iload_n hx hb dX10_goAll_87 rfl (lv_at hl 0 rfl) ?_
                    refine lv_aload_n hx hb dX10_goAll_88 rfl (lv_at hl 2 rfl) ?_
                    refine k_i (wc := [(h0, oX10 b 0 0 0 0 0 0 0 0 (-1) 0 0 ow 0 0 0 0 0 0), (b 1, .inl (cI, 149, .inl (fun _ => 0)))]) (wr := [(b 29, .inl (cI, 6, .inl (fun _ => 0))), (b 27, .inl (cI, 7, .inl f14)), (b 21, .inl (cZ, 80, .inl (fun _ => 0))), (b 24, .inl (cI, 80, .inl (fun _ => 0))), (b 25, .inl (cI, 6, .inl (fun _ => 0))), (b 30, .inl (cZ, 1040, .inl (fun _ => 0))), (b 31, .inl (cI, 1040, .inl (fun _ => 0))), (b 32, .inl (cI, 78, .inl (fun _ => 0)))]) hP hD hS hA [8, 9] [0, 1, 2, 3, 4, 5, 6, 7] rfl rfl rfl (by decide) (va_runV (As := []) (rest := [.int 1]) ⟨hx, hb, hml, hown, hts⟩ (f_X10_years l G cI cJ cZ cB cQ _ h0 b ow) (cwV 0 hts (gV w_1501 w_1503 wp_109 w_11 w_1504) rfl rfl rfl ⟨rfl, hd_X10_years⟩ ⟨Nat.le_of_ble_eq_true rfl, Nat.le_of_ble_eq_true rfl⟩) (mV hK hZ hP hD [8, 9] rfl rfl [] 8 10 rfl rfl) rfl rfl hl.1 rfl (lv_room (Nat.le_of_ble_eq_true rfl)) dX10_goAll_89 ⟨Nat.le_of_ble_eq_true rfl, Nat.le_of_ble_eq_true rfl⟩) (fun r28 u29 H locs hw30 hP hD hS => ?_)
                    try dsimp only at hw30
                    have hP : va_P G vwCl [(b 29, .inl (cI, 6, .inl (fun _ => 0))), (b 27, .inl (cI, 7, .inl f14)), (b 21, .inl (cZ, 80, .inl (fun _ => 0))), (b 24, .inl (cI, 80, .inl (fun _ => 0))), (b 25, .inl (cI, 6, .inl (fun _ => 0))), (b 30, .inl (cZ, 1040, .inl (fun _ => 0))), (b 31, .inl (cI, 1040, .inl (fun _ => 0))), (b 32, .inl (cI, 78, .inl (fun _ => 0))), (h0, oX10 b 0 0 0 0 0 0 0 0 (-1) 0 0 ow 0 0 0 0 0 0), (b 1, .inl (cI, 149, .inl (fun _ => 0)))] H := hP
                    have hD : va_D A [(b 29, .inl (cI, 6, .inl (fun _ => 0))), (b 27, .inl (cI, 7, .inl f14)), (b 21, .inl (cZ, 80, .inl (fun _ => 0))), (b 24, .inl (cI, 80, .inl (fun _ => 0))), (b 25, .inl (cI, 6, .inl (fun _ => 0))), (b 30, .inl (cZ, 1040, .inl (fun _ => 0))), (b 31, .inl (cI, 1040, .inl (fun _ => 0))), (b 32, .inl (cI, 78, .inl (fun _ => 0))), (h0, oX10 b 0 0 0 0 0 0 0 0 (-1) 0 0 ow 0 0 0 0 0 0), (b 1, .inl (cI, 149, .inl (fun _ => 0)))] := hD
                    obtain rfl : r28 = 0 := hw30
                    refine lv_icmp_gt (tgt := 157) hx hb dX10_goAll_92 (by decide) (fun c31 => ?_) (fun c31 => absurd (by decide) c31)
                    exact hret _ _ _ _ f14 (hP.sub (ws' := [(h0, oX10 b 0 0 0 0 0 0 0 0 (-1) 0 0 ow 0 0 0 0 0 0), (b 1, .inl (cI, 149, .inl (fun _ => 0))), (b 21, .inl (cZ, 80, .inl (fun _ => 0))), (b 24, .inl (cI, 80, .inl (fun _ => 0))), (b 25, .inl (cI, 6, .inl (fun _ => 0))), (b 29, .inl (cI, 6, .inl (fun _ => 0))), (b 30, .inl (cZ, 1040, .inl (fun _ => 0))), (b 31, .inl (cI, 1040, .inl (fun _ => 0))), (b 32, .inl (cI, 78, .inl (fun _ => 0))), (b 27, .inl (cI, 7, .inl f14))]) [8, 9, 2, 3, 4, 0, 5, 6, 7, 1] rfl) (hD.sub (ws' := [(h0, oX10 b 0 0 0 0 0 0 0 0 (-1) 0 0 ow 0 0 0 0 0 0), (b 1, .inl (cI, 149, .inl (fun _ => 0))), (b 21, .inl (cZ, 80, .inl (fun _ => 0))), (b 24, .inl (cI, 80, .inl (fun _ => 0))), (b 25, .inl (cI, 6, .inl (fun _ => 0))), (b 29, .inl (cI, 6, .inl (fun _ => 0))), (b 30, .inl (cZ, 1040, .inl (fun _ => 0))), (b 31, .inl (cI, 1040, .inl (fun _ => 0))), (b 32, .inl (cI, 78, .inl (fun _ => 0))), (b 27, .inl (cI, 7, .inl f14))]) [8, 9, 2, 3, 4, 0, 5, 6, 7, 1] rfl rfl) hS dX10_goAll_157 trivial
                  · have c16 := i_nle ki_7 rfl c16
                    refine lv_aload_n hx hb dX10_goAll_72 rfl (lv_at hl 1 rfl) ?_
                    refine va_get (D := G) (ci := 10) (v := .ref (b 27)) (C := RX10) (T := TX10) (N := 46) hx hb hts iG_X10 hown hK hP 0 rfl rfl 27 (by decide) (hts _ w_1219) (fun _ h9 => h9) rfl dX10_goAll_73 ?_
                    refine lv_iload_n hx hb dX10_goAll_76 rfl (lv_at hl 0 rfl) ?_
                    refine lv_iconst (v := (-1)) hx hb dX10_goAll_77 (by decide) ?_
                    refine va_iast hx hb hK hP hD hS 9 0 rfl rfl (ix_in rfl (by omega) (by omega)) dX10_goAll_78 (fun H locs hP hD hS => ?_)
                    generalize upd f14 x13.toNatClampNeg (-1) = f32 at hP hD
                    have hP : va_P G vwCl [(h0, oX10 b 0 0 0 0 0 0 0 0 (-1) 0 0 ow 0 0 0 0 0 0), (b 1, .inl (cI, 149, .inl (fun _ => 0))), (b 21, .inl (cZ, 80, .inl (fun _ => 0))), (b 24, .inl (cI, 80, .inl (fun _ => 0))), (b 25, .inl (cI, 6, .inl (fun _ => 0))), (b 29, .inl (cI, 6, .inl (fun _ => 0))), (b 30, .inl (cZ, 1040, .inl (fun _ => 0))), (b 31, .inl (cI, 1040, .inl (fun _ => 0))), (b 32, .inl (cI, 78, .inl (fun _ => 0))), (b 27, .inl (cI, 7, .inl f32))] H := hP
                    have hD : va_D A [(h0, oX10 b 0 0 0 0 0 0 0 0 (-1) 0 0 ow 0 0 0 0 0 0), (b 1, .inl (cI, 149, .inl (fun _ => 0))), (b 21, .inl (cZ, 80, .inl (fun _ => 0))), (b 24, .inl (cI, 80, .inl (fun _ => 0))), (b 25, .inl (cI, 6, .inl (fun _ => 0))), (b 29, .inl (cI, 6, .inl (fun _ => 0))), (b 30, .inl (cZ, 1040, .inl (fun _ => 0))), (b 31, .inl (cI, 1040, .inl (fun _ => 0))), (b 32, .inl (cI, 78, .inl (fun _ => 0))), (b 27, .inl (cI, 7, .inl f32))] := hD
                    obtain ⟨v33, ev33⟩ : ∃ y : Int32, y = x13 + 1 := ⟨_, rfl⟩
                    have tv33 : v33.toInt = x13.toInt + 1 := ti_add rfl ki_1 ev33 (by omega) (by omega)
                    refine lv_iinc (v := v33) (lv' := [(1, .int v33), (0, .ref h0)]) hx hb dX10_goAll_79 hl (k := 0) rfl (by rw [ev33]; rfl) (by decide) rfl (fun ls hl => ?_)
                    refine lv_goto (tgt := 66) hx hb dX10_goAll_82 (by decide) ?_
                    exact ih15 v33 f32 (by omega) (by omega) (by omega) _ _ hP hD hS ls (lv_sub hl [0, 1] rfl)
              exact lp11 8 0 (fun _ => 0) (by rw [ki_0]; decide) (by rw [ki_0]; decide) (by rw [ki_0]; decide) _ _ hP hD hS ls (lv_sub hl [0, 1] rfl)
            · have c10 := i_nle ki_6 rfl c10
              refine lv_aload_n hx hb dX10_goAll_36 rfl (lv_at hl 1 rfl) ?_
              refine va_get (D := G) (ci := 10) (v := .ref (b 25)) (C := RX10) (T := TX10) (N := 46) hx hb hts iG_X10 hown hK hP 0 rfl rfl 25 (by decide) (hts _ w_1217) (fun _ h9 => h9) rfl dX10_goAll_37 ?_
              refine lv_iload_n hx hb dX10_goAll_40 rfl (lv_at hl 0 rfl) ?_
              refine lv_aload_n hx hb dX10_goAll_41 rfl (lv_at hl 1 rfl) ?_
              refine va_get (D := G) (ci := 10) (v := .ref (b 1)) (C := RX10) (T := TX10) (N := 46) hx hb hts iG_X10 hown hK hP 0 rfl rfl 1 (by decide) (hts _ w_1193) (fun _ h9 => h9) rfl dX10_goAll_42 ?_
              refine lv_bipush (v := 22) hx hb dX10_goAll_45 (by decide) ?_
              refine lv_iload_n hx hb dX10_goAll_47 rfl (lv_at hl 0 rfl) ?_
              refine lv_iadd hx hb dX10_goAll_48 ?_
              refine lv_topi (fun v34 ev34 => ?_)
              have tv34 : v34.toInt = 22 + x8.toInt := ti_add ki_22 rfl ev34 (by omega) (by omega)
              refine va_iald hx hb hK hP 1 0 rfl rfl (ix_in tv34 (by omega) (by omega)) dX10_goAll_49 ?_
              refine W.eq (g2 := F0 m 50 ls [.int 0, .int x8, .ref (b 25)]) rfl ?_
              refine va_iast hx hb hK hP hD hS 4 0 rfl rfl (ix_in rfl (by omega) (by omega)) dX10_goAll_50 (fun H locs hP hD hS => ?_)
              rw [upd_z] at hP hD
              have hP : va_P G vwCl [(h0, oX10 b 0 0 0 0 0 0 0 0 (-1) 0 0 ow 0 0 0 0 0 0), (b 1, .inl (cI, 149, .inl (fun _ => 0))), (b 21, .inl (cZ, 80, .inl (fun _ => 0))), (b 24, .inl (cI, 80, .inl (fun _ => 0))), (b 25, .inl (cI, 6, .inl (fun _ => 0))), (b 29, .inl (cI, 6, .inl (fun _ => 0))), (b 30, .inl (cZ, 1040, .inl (fun _ => 0))), (b 31, .inl (cI, 1040, .inl (fun _ => 0))), (b 32, .inl (cI, 78, .inl (fun _ => 0))), (b 27, .inl (cI, 7, .inl (fun _ => 0)))] H := hP
              have hD : va_D A [(h0, oX10 b 0 0 0 0 0 0 0 0 (-1) 0 0 ow 0 0 0 0 0 0), (b 1, .inl (cI, 149, .inl (fun _ => 0))), (b 21, .inl (cZ, 80, .inl (fun _ => 0))), (b 24, .inl (cI, 80, .inl (fun _ => 0))), (b 25, .inl (cI, 6, .inl (fun _ => 0))), (b 29, .inl (cI, 6, .inl (fun _ => 0))), (b 30, .inl (cZ, 1040, .inl (fun _ => 0))), (b 31, .inl (cI, 1040, .inl (fun _ => 0))), (b 32, .inl (cI, 78, .inl (fun _ => 0))), (b 27, .inl (cI, 7, .inl (fun _ => 0)))] := hD
              refine lv_aload_n hx hb dX10_goAll_51 rfl (lv_at hl 1 rfl) ?_
              refine va_get (D := G) (ci := 10) (v := .ref (b 29)) (C := RX10) (T := TX10) (N := 46) hx hb hts iG_X10 hown hK hP 0 rfl rfl 29 (by decide) (hts _ w_1221) (fun _ h9 => h9) rfl dX10_goAll_52 ?_
              refine lv_iload_n hx hb dX10_goAll_55 rfl (lv_at hl 0 rfl) ?_
              refine lv_iconst (v := 0) hx hb dX10_goAll_56 (by decide) ?_
              refine va_iast hx hb hK hP hD hS 5 0 rfl rfl (ix_in rfl (by omega) (by omega)) dX10_goAll_57 (fun H locs hP hD hS => ?_)
              rw [upd_z] at hP hD
              have hP : va_P G vwCl [(h0, oX10 b 0 0 0 0 0 0 0 0 (-1) 0 0 ow 0 0 0 0 0 0), (b 1, .inl (cI, 149, .inl (fun _ => 0))), (b 21, .inl (cZ, 80, .inl (fun _ => 0))), (b 24, .inl (cI, 80, .inl (fun _ => 0))), (b 25, .inl (cI, 6, .inl (fun _ => 0))), (b 29, .inl (cI, 6, .inl (fun _ => 0))), (b 30, .inl (cZ, 1040, .inl (fun _ => 0))), (b 31, .inl (cI, 1040, .inl (fun _ => 0))), (b 32, .inl (cI, 78, .inl (fun _ => 0))), (b 27, .inl (cI, 7, .inl (fun _ => 0)))] H := hP
              have hD : va_D A [(h0, oX10 b 0 0 0 0 0 0 0 0 (-1) 0 0 ow 0 0 0 0 0 0), (b 1, .inl (cI, 149, .inl (fun _ => 0))), (b 21, .inl (cZ, 80, .inl (fun _ => 0))), (b 24, .inl (cI, 80, .inl (fun _ => 0))), (b 25, .inl (cI, 6, .inl (fun _ => 0))), (b 29, .inl (cI, 6, .inl (fun _ => 0))), (b 30, .inl (cZ, 1040, .inl (fun _ => 0))), (b 31, .inl (cI, 1040, .inl (fun _ => 0))), (b 32, .inl (cI, 78, .inl (fun _ => 0))), (b 27, .inl (cI, 7, .inl (fun _ => 0)))] := hD
              obtain ⟨v35, ev35⟩ : ∃ y : Int32, y = x8 + 1 := ⟨_, rfl⟩
              have tv35 : v35.toInt = x8.toInt + 1 := ti_add rfl ki_1 ev35 (by omega) (by omega)
              refine lv_iinc (v := v35) (lv' := [(1, .int v35), (0, .ref h0)]) hx hb dX10_goAll_58 hl (k := 0) rfl (by rw [ev35]; rfl) (by decide) rfl (fun ls hl => ?_)
              refine lv_goto (tgt := 30) hx hb dX10_goAll_61 (by decide) ?_
              exact ih9 v35 (by omega) (by omega) (by omega) _ _ hP hD hS ls (lv_sub hl [0, 1] rfl)
        exact lp6 7 0 (by rw [ki_0]; decide) (by rw [ki_0]; decide) (by rw [ki_0]; decide) _ _ hP hD hS ls (lv_sub hl [0, 1] rfl)
      · have c5 := i_nle ki_80 rfl c5
        refine lv_aload_n hx hb dX10_goAll_8 rfl (lv_at hl 1 rfl) ?_
        refine va_get (D := G) (ci := 10) (v := .ref (b 21)) (C := RX10) (T := TX10) (N := 46) hx hb hts iG_X10 hown hK hP 0 rfl rfl 21 (by decide) (hts _ w_1213) (fun _ h9 => h9) rfl dX10_goAll_9 ?_
        refine lv_iload_n hx hb dX10_goAll_12 rfl (lv_at hl 0 rfl) ?_
        refine lv_iconst (v := 0) hx hb dX10_goAll_13 (by decide) ?_
        refine va_zast hx hb hK hP hD hS 2 2 rfl rfl (ix_in rfl (by omega) (by omega)) dX10_goAll_14 (fun H locs hP hD hS => ?_)
        rw [show vp_nar .boolean 0 = 0 from rfl] at hP hD
        rw [upd_z] at hP hD
        have hP : va_P G vwCl [(h0, oX10 b 0 0 0 0 0 0 0 0 (-1) 0 0 ow 0 0 0 0 0 0), (b 1, .inl (cI, 149, .inl (fun _ => 0))), (b 21, .inl (cZ, 80, .inl (fun _ => 0))), (b 24, .inl (cI, 80, .inl (fun _ => 0))), (b 25, .inl (cI, 6, .inl (fun _ => 0))), (b 29, .inl (cI, 6, .inl (fun _ => 0))), (b 30, .inl (cZ, 1040, .inl (fun _ => 0))), (b 31, .inl (cI, 1040, .inl (fun _ => 0))), (b 32, .inl (cI, 78, .inl (fun _ => 0))), (b 27, .inl (cI, 7, .inl (fun _ => 0)))] H := hP
        have hD : va_D A [(h0, oX10 b 0 0 0 0 0 0 0 0 (-1) 0 0 ow 0 0 0 0 0 0), (b 1, .inl (cI, 149, .inl (fun _ => 0))), (b 21, .inl (cZ, 80, .inl (fun _ => 0))), (b 24, .inl (cI, 80, .inl (fun _ => 0))), (b 25, .inl (cI, 6, .inl (fun _ => 0))), (b 29, .inl (cI, 6, .inl (fun _ => 0))), (b 30, .inl (cZ, 1040, .inl (fun _ => 0))), (b 31, .inl (cI, 1040, .inl (fun _ => 0))), (b 32, .inl (cI, 78, .inl (fun _ => 0))), (b 27, .inl (cI, 7, .inl (fun _ => 0)))] := hD
        refine lv_aload_n hx hb dX10_goAll_15 rfl (lv_at hl 1 rfl) ?_
        refine va_get (D := G) (ci := 10) (v := .ref (b 24)) (C := RX10) (T := TX10) (N := 46) hx hb hts iG_X10 hown hK hP 0 rfl rfl 24 (by decide) (hts _ w_1216) (fun _ h9 => h9) rfl dX10_goAll_16 ?_
        refine lv_iload_n hx hb dX10_goAll_19 rfl (lv_at hl 0 rfl) ?_
        refine lv_iconst (v := 0) hx hb dX10_goAll_20 (by decide) ?_
        refine va_iast hx hb hK hP hD hS 3 0 rfl rfl (ix_in rfl (by omega) (by omega)) dX10_goAll_21 (fun H locs hP hD hS => ?_)
        rw [upd_z] at hP hD
        have hP : va_P G vwCl [(h0, oX10 b 0 0 0 0 0 0 0 0 (-1) 0 0 ow 0 0 0 0 0 0), (b 1, .inl (cI, 149, .inl (fun _ => 0))), (b 21, .inl (cZ, 80, .inl (fun _ => 0))), (b 24, .inl (cI, 80, .inl (fun _ => 0))), (b 25, .inl (cI, 6, .inl (fun _ => 0))), (b 29, .inl (cI, 6, .inl (fun _ => 0))), (b 30, .inl (cZ, 1040, .inl (fun _ => 0))), (b 31, .inl (cI, 1040, .inl (fun _ => 0))), (b 32, .inl (cI, 78, .inl (fun _ => 0))), (b 27, .inl (cI, 7, .inl (fun _ => 0)))] H := hP
        have hD : va_D A [(h0, oX10 b 0 0 0 0 0 0 0 0 (-1) 0 0 ow 0 0 0 0 0 0), (b 1, .inl (cI, 149, .inl (fun _ => 0))), (b 21, .inl (cZ, 80, .inl (fun _ => 0))), (b 24, .inl (cI, 80, .inl (fun _ => 0))), (b 25, .inl (cI, 6, .inl (fun _ => 0))), (b 29, .inl (cI, 6, .inl (fun _ => 0))), (b 30, .inl (cZ, 1040, .inl (fun _ => 0))), (b 31, .inl (cI, 1040, .inl (fun _ => 0))), (b 32, .inl (cI, 78, .inl (fun _ => 0))), (b 27, .inl (cI, 7, .inl (fun _ => 0)))] := hD
        obtain ⟨v36, ev36⟩ : ∃ y : Int32, y = x3 + 1 := ⟨_, rfl⟩
        have tv36 : v36.toInt = x3.toInt + 1 := ti_add rfl ki_1 ev36 (by omega) (by omega)
        refine lv_iinc (v := v36) (lv' := [(1, .int v36), (0, .ref h0)]) hx hb dX10_goAll_22 hl (k := 0) rfl (by rw [ev36]; rfl) (by decide) rfl (fun ls hl => ?_)
        refine lv_goto (tgt := 2) hx hb dX10_goAll_25 (by decide) ?_
        exact ih4 v36 (by omega) (by omega) (by omega) _ _ hP hD hS ls (lv_sub hl [0, 1] rfl)
  exact lp1 81 0 (by rw [ki_0]; decide) (by rw [ki_0]; decide) (by rw [ki_0]; decide) _ _ hP hD hS ls (lv_sub hl [0, 1] rfl)
set_option maxHeartbeats 4000000 in
set_option maxRecDepth 100000 in
theorem f_X10_asksColony (l : Launch) (G : va_G) (cI cJ cZ cB cQ : ClassId) (sz : Nat) (h0 : Nat) (b : Nat → Nat) : CI l yX10_asksColony (wl_ yX10_asksColony cX10_asksColony 1 (some .boolean)) ({ frames := 3, cells := 0, slots := 0, locals := 62 } : Room) G (TY cI cJ cZ cB cQ) [.ref h0] [(h0, oX10 b 0 0 0 0 0 0 0 0 (-1) 0 0 0 0 0 0 0 0 0), (b 1, .inl (cI, 149, .inl (fun _ => 0))), (b 15, .inl (cZ, 80, .inl (fun _ => 0))), (b 16, .inl (cI, 7, .inl (fun _ => 0))), (b 21, .inl (cZ, 80, .inl (fun _ => 0))), (b 24, .inl (cI, 80, .inl (fun _ => 0))), (b 25, .inl (cI, 6, .inl (fun _ => 0))), (b 29, .inl (cI, 6, .inl (fun _ => 0))), (b 30, .inl (cZ, 1040, .inl (fun _ => 0))), (b 31, .inl (cI, 1040, .inl (fun _ => 0))), (b 32, .inl (cI, 78, .inl (fun _ => 0))), (b 27, .inl (cI, 7, .inl (fun _ => 0)))] sz (fun (r : Int32) (u : (Nat → Int32)) => r = 0) (fun u : (Nat → Int32) => [(h0, oX10 b 0 0 0 0 0 0 0 0 (-1) 0 0 (-1) 0 0 0 0 0 0), (b 1, .inl (cI, 149, .inl (fun _ => 0))), (b 15, .inl (cZ, 80, .inl (fun _ => 0))), (b 16, .inl (cI, 7, .inl (fun _ => 0))), (b 21, .inl (cZ, 80, .inl (fun _ => 0))), (b 24, .inl (cI, 80, .inl (fun _ => 0))), (b 25, .inl (cI, 6, .inl (fun _ => 0))), (b 29, .inl (cI, 6, .inl (fun _ => 0))), (b 30, .inl (cZ, 1040, .inl (fun _ => 0))), (b 31, .inl (cI, 1040, .inl (fun _ => 0))), (b 32, .inl (cI, 78, .inl (fun _ => 0))), (b 27, .inl (cI, 7, .inl u))]) 0 0 := by
  refine CI.goz (cc := cX10_asksColony) (maxL := 1) (ret := (some .boolean)) (by decide) rfl (Nat.le_of_ble_eq_true rfl) ?_
  intro p e s m below meth c A ls Q hBd hret
  obtain ⟨hx, hb, hr, hml, hts, hown, hlk, hnm, hP, hK, hD, hA, hZ, hl⟩ := hBd
  have hown : s.vm.findClass RX10 = some m.cls := hown
  have hl : lv_has ls 1 [(0, .ref h0)] := hl
  have hS : va_S A s.heap s.heap [] := va_S.rf
  refine lv_aload_n hx hb dX10_asksColony_0 rfl (lv_at hl 0 rfl) ?_
  refine k_v (wc := [(h0, oX10 b 0 0 0 0 0 0 0 0 (-1) 0 0 0 0 0 0 0 0 0), (b 1, .inl (cI, 149, .inl (fun _ => 0))), (b 15, .inl (cZ, 80, .inl (fun _ => 0))), (b 16, .inl (cI, 7, .inl (fun _ => 0)))]) (wr := [(b 21, .inl (cZ, 80, .inl (fun _ => 0))), (b 24, .inl (cI, 80, .inl (fun _ => 0))), (b 25, .inl (cI, 6, .inl (fun _ => 0))), (b 29, .inl (cI, 6, .inl (fun _ => 0))), (b 30, .inl (cZ, 1040, .inl (fun _ => 0))), (b 31, .inl (cI, 1040, .inl (fun _ => 0))), (b 32, .inl (cI, 78, .inl (fun _ => 0))), (b 27, .inl (cI, 7, .inl (fun _ => 0)))]) hP hD hS hA [0, 1, 2, 3] [4, 5, 6, 7, 8, 9, 10, 11] rfl rfl rfl (by decide) (va_runV (As := []) (rest := []) ⟨hx, hb, hml, hown, hts⟩ (f_X10_asItIs l G cI cJ cZ cB cQ _ h0 b) (cwV 0 hts (gV w_1489 w_1491 wp_106 w_11 w_1492) rfl rfl rfl ⟨rfl, hd_X10_asItIs⟩ ⟨Nat.le_of_ble_eq_true rfl, Nat.le_of_ble_eq_true rfl⟩) (mV hK hZ hP hD [0, 1, 2, 3] rfl rfl [] 0 10 rfl rfl) rfl rfl hl.1 rfl (lv_room (Nat.le_of_ble_eq_true rfl)) dX10_asksColony_1 ⟨Nat.le_of_ble_eq_true rfl, Nat.le_of_ble_eq_true rfl⟩) (fun u2 H locs hw3 hP hD hS => ?_)
  have hP : va_P G vwCl [(b 21, .inl (cZ, 80, .inl (fun _ => 0))), (b 24, .inl (cI, 80, .inl (fun _ => 0))), (b 25, .inl (cI, 6, .inl (fun _ => 0))), (b 29, .inl (cI, 6, .inl (fun _ => 0))), (b 30, .inl (cZ, 1040, .inl (fun _ => 0))), (b 31, .inl (cI, 1040, .inl (fun _ => 0))), (b 32, .inl (cI, 78, .inl (fun _ => 0))), (b 27, .inl (cI, 7, .inl (fun _ => 0))), (h0, oX10 b 0 0 0 0 0 0 0 0 (-1) 0 0 (-1) 0 0 0 0 0 0), (b 1, .inl (cI, 149, .inl (fun _ => 0))), (b 15, .inl (cZ, 80, .inl (fun _ => 0))), (b 16, .inl (cI, 7, .inl (fun _ => 0)))] H := hP
  have hD : va_D A [(b 21, .inl (cZ, 80, .inl (fun _ => 0))), (b 24, .inl (cI, 80, .inl (fun _ => 0))), (b 25, .inl (cI, 6, .inl (fun _ => 0))), (b 29, .inl (cI, 6, .inl (fun _ => 0))), (b 30, .inl (cZ, 1040, .inl (fun _ => 0))), (b 31, .inl (cI, 1040, .inl (fun _ => 0))), (b 32, .inl (cI, 78, .inl (fun _ => 0))), (b 27, .inl (cI, 7, .inl (fun _ => 0))), (h0, oX10 b 0 0 0 0 0 0 0 0 (-1) 0 0 (-1) 0 0 0 0 0 0), (b 1, .inl (cI, 149, .inl (fun _ => 0))), (b 15, .inl (cZ, 80, .inl (fun _ => 0))), (b 16, .inl (cI, 7, .inl (fun _ => 0)))] := hD
  refine lv_aload_n hx hb dX10_asksColony_4 rfl (lv_at hl 0 rfl) ?_
  refine k_v (wc := [(h0, oX10 b 0 0 0 0 0 0 0 0 (-1) 0 0 (-1) 0 0 0 0 0 0), (b 1, .inl (cI, 149, .inl (fun _ => 0))), (b 21, .inl (cZ, 80, .inl (fun _ => 0))), (b 24, .inl (cI, 80, .inl (fun _ => 0))), (b 25, .inl (cI, 6, .inl (fun _ => 0))), (b 29, .inl (cI, 6, .inl (fun _ => 0))), (b 30, .inl (cZ, 1040, .inl (fun _ => 0))), (b 31, .inl (cI, 1040, .inl (fun _ => 0))), (b 32, .inl (cI, 78, .inl (fun _ => 0))), (b 27, .inl (cI, 7, .inl (fun _ => 0)))]) (wr := [(b 15, .inl (cZ, 80, .inl (fun _ => 0))), (b 16, .inl (cI, 7, .inl (fun _ => 0)))]) hP hD hS hA [8, 9, 0, 1, 2, 3, 4, 5, 6, 7] [10, 11] rfl rfl rfl (by decide) (va_runV (As := []) (rest := []) ⟨hx, hb, hml, hown, hts⟩ (f_X10_goAll l G cI cJ cZ cB cQ _ h0 b (-1)) (cwV 0 hts (gV w_1497 w_1499 wp_108 w_11 w_1500) rfl rfl rfl ⟨rfl, hd_X10_goAll⟩ ⟨Nat.le_of_ble_eq_true rfl, Nat.le_of_ble_eq_true rfl⟩) (mV hK hZ hP hD [8, 9, 0, 1, 2, 3, 4, 5, 6, 7] rfl rfl [] 8 10 rfl rfl) rfl rfl hl.1 rfl (lv_room (Nat.le_of_ble_eq_true rfl)) dX10_asksColony_5 ⟨Nat.le_of_ble_eq_true rfl, Nat.le_of_ble_eq_true rfl⟩) (fun u5 H locs hw6 hP hD hS => ?_)
  obtain ⟨f07, rfl⟩ : ∃ z, z = u5 := ⟨_, rfl⟩
  have hP : va_P G vwCl [(b 15, .inl (cZ, 80, .inl (fun _ => 0))), (b 16, .inl (cI, 7, .inl (fun _ => 0))), (h0, oX10 b 0 0 0 0 0 0 0 0 (-1) 0 0 (-1) 0 0 0 0 0 0), (b 1, .inl (cI, 149, .inl (fun _ => 0))), (b 21, .inl (cZ, 80, .inl (fun _ => 0))), (b 24, .inl (cI, 80, .inl (fun _ => 0))), (b 25, .inl (cI, 6, .inl (fun _ => 0))), (b 29, .inl (cI, 6, .inl (fun _ => 0))), (b 30, .inl (cZ, 1040, .inl (fun _ => 0))), (b 31, .inl (cI, 1040, .inl (fun _ => 0))), (b 32, .inl (cI, 78, .inl (fun _ => 0))), (b 27, .inl (cI, 7, .inl f07))] H := hP
  have hD : va_D A [(b 15, .inl (cZ, 80, .inl (fun _ => 0))), (b 16, .inl (cI, 7, .inl (fun _ => 0))), (h0, oX10 b 0 0 0 0 0 0 0 0 (-1) 0 0 (-1) 0 0 0 0 0 0), (b 1, .inl (cI, 149, .inl (fun _ => 0))), (b 21, .inl (cZ, 80, .inl (fun _ => 0))), (b 24, .inl (cI, 80, .inl (fun _ => 0))), (b 25, .inl (cI, 6, .inl (fun _ => 0))), (b 29, .inl (cI, 6, .inl (fun _ => 0))), (b 30, .inl (cZ, 1040, .inl (fun _ => 0))), (b 31, .inl (cI, 1040, .inl (fun _ => 0))), (b 32, .inl (cI, 78, .inl (fun _ => 0))), (b 27, .inl (cI, 7, .inl f07))] := hD
  refine lv_aload_n hx hb dX10_asksColony_8 rfl (lv_at hl 0 rfl) ?_
  refine k_i (wc := [(h0, oX10 b 0 0 0 0 0 0 0 0 (-1) 0 0 (-1) 0 0 0 0 0 0), (b 1, .inl (cI, 149, .inl (fun _ => 0)))]) (wr := [(b 15, .inl (cZ, 80, .inl (fun _ => 0))), (b 16, .inl (cI, 7, .inl (fun _ => 0))), (b 21, .inl (cZ, 80, .inl (fun _ => 0))), (b 24, .inl (cI, 80, .inl (fun _ => 0))), (b 25, .inl (cI, 6, .inl (fun _ => 0))), (b 29, .inl (cI, 6, .inl (fun _ => 0))), (b 30, .inl (cZ, 1040, .inl (fun _ => 0))), (b 31, .inl (cI, 1040, .inl (fun _ => 0))), (b 32, .inl (cI, 78, .inl (fun _ => 0))), (b 27, .inl (cI, 7, .inl f07))]) hP hD hS hA [2, 3] [0, 1, 4, 5, 6, 7, 8, 9, 10, 11] rfl rfl rfl (by decide) (va_runV (As := []) (rest := []) ⟨hx, hb, hml, hown, hts⟩ (f_X10_isColony l G cI cJ cZ cB cQ _ h0 b (-1)) (cwV 0 hts (gV w_1554 w_1556 wp_120 w_11 w_1557) rfl rfl rfl ⟨rfl, hd_X10_isColony⟩ ⟨Nat.le_of_ble_eq_true rfl, Nat.le_of_ble_eq_true rfl⟩) (mV hK hZ hP hD [2, 3] rfl rfl [] 2 10 rfl rfl) rfl rfl hl.1 rfl (lv_room (Nat.le_of_ble_eq_true rfl)) dX10_asksColony_9 ⟨Nat.le_of_ble_eq_true rfl, Nat.le_of_ble_eq_true rfl⟩) (fun r8 u9 H locs hw10 hP hD hS => ?_)
  try dsimp only at hw10
  have hP : va_P G vwCl [(b 15, .inl (cZ, 80, .inl (fun _ => 0))), (b 16, .inl (cI, 7, .inl (fun _ => 0))), (b 21, .inl (cZ, 80, .inl (fun _ => 0))), (b 24, .inl (cI, 80, .inl (fun _ => 0))), (b 25, .inl (cI, 6, .inl (fun _ => 0))), (b 29, .inl (cI, 6, .inl (fun _ => 0))), (b 30, .inl (cZ, 1040, .inl (fun _ => 0))), (b 31, .inl (cI, 1040, .inl (fun _ => 0))), (b 32, .inl (cI, 78, .inl (fun _ => 0))), (b 27, .inl (cI, 7, .inl f07)), (h0, oX10 b 0 0 0 0 0 0 0 0 (-1) 0 0 (-1) 0 0 0 0 0 0), (b 1, .inl (cI, 149, .inl (fun _ => 0)))] H := hP
  have hD : va_D A [(b 15, .inl (cZ, 80, .inl (fun _ => 0))), (b 16, .inl (cI, 7, .inl (fun _ => 0))), (b 21, .inl (cZ, 80, .inl (fun _ => 0))), (b 24, .inl (cI, 80, .inl (fun _ => 0))), (b 25, .inl (cI, 6, .inl (fun _ => 0))), (b 29, .inl (cI, 6, .inl (fun _ => 0))), (b 30, .inl (cZ, 1040, .inl (fun _ => 0))), (b 31, .inl (cI, 1040, .inl (fun _ => 0))), (b 32, .inl (cI, 78, .inl (fun _ => 0))), (b 27, .inl (cI, 7, .inl f07)), (h0, oX10 b 0 0 0 0 0 0 0 0 (-1) 0 0 (-1) 0 0 0 0 0 0), (b 1, .inl (cI, 149, .inl (fun _ => 0)))] := hD
  obtain rfl : r8 = 0 := hw10
  exact hret _ _ _ _ 0 f07 (hP.sub (ws' := [(h0, oX10 b 0 0 0 0 0 0 0 0 (-1) 0 0 (-1) 0 0 0 0 0 0), (b 1, .inl (cI, 149, .inl (fun _ => 0))), (b 15, .inl (cZ, 80, .inl (fun _ => 0))), (b 16, .inl (cI, 7, .inl (fun _ => 0))), (b 21, .inl (cZ, 80, .inl (fun _ => 0))), (b 24, .inl (cI, 80, .inl (fun _ => 0))), (b 25, .inl (cI, 6, .inl (fun _ => 0))), (b 29, .inl (cI, 6, .inl (fun _ => 0))), (b 30, .inl (cZ, 1040, .inl (fun _ => 0))), (b 31, .inl (cI, 1040, .inl (fun _ => 0))), (b 32, .inl (cI, 78, .inl (fun _ => 0))), (b 27, .inl (cI, 7, .inl f07))]) [10, 11, 0, 1, 2, 3, 4, 5, 6, 7, 8, 9] rfl) (hD.sub (ws' := [(h0, oX10 b 0 0 0 0 0 0 0 0 (-1) 0 0 (-1) 0 0 0 0 0 0), (b 1, .inl (cI, 149, .inl (fun _ => 0))), (b 15, .inl (cZ, 80, .inl (fun _ => 0))), (b 16, .inl (cI, 7, .inl (fun _ => 0))), (b 21, .inl (cZ, 80, .inl (fun _ => 0))), (b 24, .inl (cI, 80, .inl (fun _ => 0))), (b 25, .inl (cI, 6, .inl (fun _ => 0))), (b 29, .inl (cI, 6, .inl (fun _ => 0))), (b 30, .inl (cZ, 1040, .inl (fun _ => 0))), (b 31, .inl (cI, 1040, .inl (fun _ => 0))), (b 32, .inl (cI, 78, .inl (fun _ => 0))), (b 27, .inl (cI, 7, .inl f07))]) [10, 11, 0, 1, 2, 3, 4, 5, 6, 7, 8, 9] rfl rfl) hS dX10_asksColony_12 rfl rfl
set_option maxHeartbeats 4000000 in
set_option maxRecDepth 100000 in
theorem f_X10_asksYear (l : Launch) (G : va_G) (cI cJ cZ cB cQ : ClassId) (sz : Nat) (h0 : Nat) (b : Nat → Nat) (p0 : Int32) : CI l yX10_asksYear (wl_ yX10_asksYear cX10_asksYear 2 (some .boolean)) ({ frames := 4, cells := 0, slots := 0, locals := 82 } : Room) G (TY cI cJ cZ cB cQ) [.ref h0, .int p0] [(h0, oX10 b 0 0 0 0 0 0 0 0 (-1) 0 0 0 0 0 0 0 0 0), (b 1, .inl (cI, 149, .inl (fun _ => 0))), (b 15, .inl (cZ, 80, .inl (fun _ => 0))), (b 16, .inl (cI, 7, .inl (fun _ => 0))), (b 21, .inl (cZ, 80, .inl (fun _ => 0))), (b 24, .inl (cI, 80, .inl (fun _ => 0))), (b 25, .inl (cI, 6, .inl (fun _ => 0))), (b 29, .inl (cI, 6, .inl (fun _ => 0))), (b 30, .inl (cZ, 1040, .inl (fun _ => 0))), (b 31, .inl (cI, 1040, .inl (fun _ => 0))), (b 32, .inl (cI, 78, .inl (fun _ => 0))), (b 27, .inl (cI, 7, .inl (fun _ => 0)))] sz (fun (r : Int32) (u : (Nat → Int32)) => r = 0) (fun u : (Nat → Int32) => [(h0, oX10 b 0 0 0 0 0 0 0 0 (-1) 0 0 (-1) 0 0 0 0 0 0), (b 1, .inl (cI, 149, .inl (fun _ => 0))), (b 15, .inl (cZ, 80, .inl (fun _ => 0))), (b 16, .inl (cI, 7, .inl (fun _ => 0))), (b 21, .inl (cZ, 80, .inl (fun _ => 0))), (b 24, .inl (cI, 80, .inl (fun _ => 0))), (b 25, .inl (cI, 6, .inl (fun _ => 0))), (b 29, .inl (cI, 6, .inl (fun _ => 0))), (b 30, .inl (cZ, 1040, .inl (fun _ => 0))), (b 31, .inl (cI, 1040, .inl (fun _ => 0))), (b 32, .inl (cI, 78, .inl (fun _ => 0))), (b 27, .inl (cI, 7, .inl u))]) 0 0 := by
  refine CI.goz (cc := cX10_asksYear) (maxL := 2) (ret := (some .boolean)) (by decide) rfl (Nat.le_of_ble_eq_true rfl) ?_
  intro p e s m below meth c A ls Q hBd hret
  obtain ⟨hx, hb, hr, hml, hts, hown, hlk, hnm, hP, hK, hD, hA, hZ, hl⟩ := hBd
  have hown : s.vm.findClass RX10 = some m.cls := hown
  have hl : lv_has ls 2 [(0, .ref h0), (1, .int p0)] := hl
  have hS : va_S A s.heap s.heap [] := va_S.rf
  refine lv_aload_n hx hb dX10_asksYear_0 rfl (lv_at hl 0 rfl) ?_
  refine k_i (wc := [(h0, oX10 b 0 0 0 0 0 0 0 0 (-1) 0 0 0 0 0 0 0 0 0), (b 1, .inl (cI, 149, .inl (fun _ => 0))), (b 15, .inl (cZ, 80, .inl (fun _ => 0))), (b 16, .inl (cI, 7, .inl (fun _ => 0))), (b 21, .inl (cZ, 80, .inl (fun _ => 0))), (b 24, .inl (cI, 80, .inl (fun _ => 0))), (b 25, .inl (cI, 6, .inl (fun _ => 0))), (b 29, .inl (cI, 6, .inl (fun _ => 0))), (b 30, .inl (cZ, 1040, .inl (fun _ => 0))), (b 31, .inl (cI, 1040, .inl (fun _ => 0))), (b 32, .inl (cI, 78, .inl (fun _ => 0))), (b 27, .inl (cI, 7, .inl (fun _ => 0)))]) (wr := []) hP hD hS hA [0, 1, 2, 3, 4, 5, 6, 7, 8, 9, 10, 11] [] rfl rfl rfl (by decide) (va_runV (As := []) (rest := []) ⟨hx, hb, hml, hown, hts⟩ (f_X10_asksColony l G cI cJ cZ cB cQ _ h0 b) (cwV 0 hts (gV w_1485 w_1487 wp_105 w_11 w_1488) rfl rfl rfl ⟨rfl, hd_X10_asksColony⟩ ⟨Nat.le_of_ble_eq_true rfl, Nat.le_of_ble_eq_true rfl⟩) (mV hK hZ hP hD [0, 1, 2, 3, 4, 5, 6, 7, 8, 9, 10, 11] rfl rfl [] 0 10 rfl rfl) rfl rfl hl.1 rfl (lv_room (Nat.le_of_ble_eq_true rfl)) dX10_asksYear_1 ⟨Nat.le_of_ble_eq_true rfl, Nat.le_of_ble_eq_true rfl⟩) (fun r1 u2 H locs hw3 hP hD hS => ?_)
  obtain ⟨f04, rfl⟩ : ∃ z, z = u2 := ⟨_, rfl⟩
  try dsimp only at hw3
  have hP : va_P G vwCl [(h0, oX10 b 0 0 0 0 0 0 0 0 (-1) 0 0 (-1) 0 0 0 0 0 0), (b 1, .inl (cI, 149, .inl (fun _ => 0))), (b 15, .inl (cZ, 80, .inl (fun _ => 0))), (b 16, .inl (cI, 7, .inl (fun _ => 0))), (b 21, .inl (cZ, 80, .inl (fun _ => 0))), (b 24, .inl (cI, 80, .inl (fun _ => 0))), (b 25, .inl (cI, 6, .inl (fun _ => 0))), (b 29, .inl (cI, 6, .inl (fun _ => 0))), (b 30, .inl (cZ, 1040, .inl (fun _ => 0))), (b 31, .inl (cI, 1040, .inl (fun _ => 0))), (b 32, .inl (cI, 78, .inl (fun _ => 0))), (b 27, .inl (cI, 7, .inl f04))] H := hP
  have hD : va_D A [(h0, oX10 b 0 0 0 0 0 0 0 0 (-1) 0 0 (-1) 0 0 0 0 0 0), (b 1, .inl (cI, 149, .inl (fun _ => 0))), (b 15, .inl (cZ, 80, .inl (fun _ => 0))), (b 16, .inl (cI, 7, .inl (fun _ => 0))), (b 21, .inl (cZ, 80, .inl (fun _ => 0))), (b 24, .inl (cI, 80, .inl (fun _ => 0))), (b 25, .inl (cI, 6, .inl (fun _ => 0))), (b 29, .inl (cI, 6, .inl (fun _ => 0))), (b 30, .inl (cZ, 1040, .inl (fun _ => 0))), (b 31, .inl (cI, 1040, .inl (fun _ => 0))), (b 32, .inl (cI, 78, .inl (fun _ => 0))), (b 27, .inl (cI, 7, .inl f04))] := hD
  obtain rfl : r1 = 0 := hw3
  refine lv_pop hx hb dX10_asksYear_4 rfl ?_
  refine lv_aload_n hx hb dX10_asksYear_5 rfl (lv_at hl 0 rfl) ?_
  refine lv_iload_n hx hb dX10_asksYear_6 rfl (lv_at hl 1 rfl) ?_
  obtain ⟨v5, ev5⟩ : ∃ y : Int64, p0.toInt64 = y := ⟨_, rfl⟩
  have tv5 : v5.toInt = p0.toInt := ti_wide rfl ev5
  refine lv_i2l (v := v5) hx hb dX10_asksYear_7 ev5 ?_
  refine k_i (wc := [(h0, oX10 b 0 0 0 0 0 0 0 0 (-1) 0 0 (-1) 0 0 0 0 0 0), (b 1, .inl (cI, 149, .inl (fun _ => 0)))]) (wr := [(b 15, .inl (cZ, 80, .inl (fun _ => 0))), (b 16, .inl (cI, 7, .inl (fun _ => 0))), (b 21, .inl (cZ, 80, .inl (fun _ => 0))), (b 24, .inl (cI, 80, .inl (fun _ => 0))), (b 25, .inl (cI, 6, .inl (fun _ => 0))), (b 29, .inl (cI, 6, .inl (fun _ => 0))), (b 30, .inl (cZ, 1040, .inl (fun _ => 0))), (b 31, .inl (cI, 1040, .inl (fun _ => 0))), (b 32, .inl (cI, 78, .inl (fun _ => 0))), (b 27, .inl (cI, 7, .inl f04))]) hP hD hS hA [0, 1] [2, 3, 4, 5, 6, 7, 8, 9, 10, 11] rfl rfl rfl (by decide) (va_runV (As := [.long v5]) (rest := []) ⟨hx, hb, hml, hown, hts⟩ (f_X10_isYear l G cI cJ cZ cB cQ _ h0 b (-1) v5) (cwV 1 hts (gV w_1624 w_1626 wp_129 w_11 w_1627) rfl rfl rfl ⟨rfl, hd_X10_isYear⟩ ⟨Nat.le_of_ble_eq_true rfl, Nat.le_of_ble_eq_true rfl⟩) (mV hK hZ hP hD [0, 1] rfl rfl [.long v5] 0 10 rfl rfl) rfl rfl hl.1 rfl (lv_room (Nat.le_of_ble_eq_true rfl)) dX10_asksYear_8 ⟨Nat.le_of_ble_eq_true rfl, Nat.le_of_ble_eq_true rfl⟩) (fun r6 u7 H locs hw8 hP hD hS => ?_)
  try dsimp only at hw8
  have hP : va_P G vwCl [(b 15, .inl (cZ, 80, .inl (fun _ => 0))), (b 16, .inl (cI, 7, .inl (fun _ => 0))), (b 21, .inl (cZ, 80, .inl (fun _ => 0))), (b 24, .inl (cI, 80, .inl (fun _ => 0))), (b 25, .inl (cI, 6, .inl (fun _ => 0))), (b 29, .inl (cI, 6, .inl (fun _ => 0))), (b 30, .inl (cZ, 1040, .inl (fun _ => 0))), (b 31, .inl (cI, 1040, .inl (fun _ => 0))), (b 32, .inl (cI, 78, .inl (fun _ => 0))), (b 27, .inl (cI, 7, .inl f04)), (h0, oX10 b 0 0 0 0 0 0 0 0 (-1) 0 0 (-1) 0 0 0 0 0 0), (b 1, .inl (cI, 149, .inl (fun _ => 0)))] H := hP
  have hD : va_D A [(b 15, .inl (cZ, 80, .inl (fun _ => 0))), (b 16, .inl (cI, 7, .inl (fun _ => 0))), (b 21, .inl (cZ, 80, .inl (fun _ => 0))), (b 24, .inl (cI, 80, .inl (fun _ => 0))), (b 25, .inl (cI, 6, .inl (fun _ => 0))), (b 29, .inl (cI, 6, .inl (fun _ => 0))), (b 30, .inl (cZ, 1040, .inl (fun _ => 0))), (b 31, .inl (cI, 1040, .inl (fun _ => 0))), (b 32, .inl (cI, 78, .inl (fun _ => 0))), (b 27, .inl (cI, 7, .inl f04)), (h0, oX10 b 0 0 0 0 0 0 0 0 (-1) 0 0 (-1) 0 0 0 0 0 0), (b 1, .inl (cI, 149, .inl (fun _ => 0)))] := hD
  obtain rfl : r6 = 0 := hw8
  exact hret _ _ _ _ 0 f04 (hP.sub (ws' := [(h0, oX10 b 0 0 0 0 0 0 0 0 (-1) 0 0 (-1) 0 0 0 0 0 0), (b 1, .inl (cI, 149, .inl (fun _ => 0))), (b 15, .inl (cZ, 80, .inl (fun _ => 0))), (b 16, .inl (cI, 7, .inl (fun _ => 0))), (b 21, .inl (cZ, 80, .inl (fun _ => 0))), (b 24, .inl (cI, 80, .inl (fun _ => 0))), (b 25, .inl (cI, 6, .inl (fun _ => 0))), (b 29, .inl (cI, 6, .inl (fun _ => 0))), (b 30, .inl (cZ, 1040, .inl (fun _ => 0))), (b 31, .inl (cI, 1040, .inl (fun _ => 0))), (b 32, .inl (cI, 78, .inl (fun _ => 0))), (b 27, .inl (cI, 7, .inl f04))]) [10, 11, 0, 1, 2, 3, 4, 5, 6, 7, 8, 9] rfl) (hD.sub (ws' := [(h0, oX10 b 0 0 0 0 0 0 0 0 (-1) 0 0 (-1) 0 0 0 0 0 0), (b 1, .inl (cI, 149, .inl (fun _ => 0))), (b 15, .inl (cZ, 80, .inl (fun _ => 0))), (b 16, .inl (cI, 7, .inl (fun _ => 0))), (b 21, .inl (cZ, 80, .inl (fun _ => 0))), (b 24, .inl (cI, 80, .inl (fun _ => 0))), (b 25, .inl (cI, 6, .inl (fun _ => 0))), (b 29, .inl (cI, 6, .inl (fun _ => 0))), (b 30, .inl (cZ, 1040, .inl (fun _ => 0))), (b 31, .inl (cI, 1040, .inl (fun _ => 0))), (b 32, .inl (cI, 78, .inl (fun _ => 0))), (b 27, .inl (cI, 7, .inl f04))]) [10, 11, 0, 1, 2, 3, 4, 5, 6, 7, 8, 9] rfl rfl) hS dX10_asksYear_11 rfl rfl
set_option maxHeartbeats 4000000 in
set_option maxRecDepth 100000 in
theorem f_X10_asksWidow (l : Launch) (G : va_G) (cI cJ cZ cB cQ : ClassId) (sz : Nat) (h0 : Nat) (b : Nat → Nat) (p0 : Int32) : CI l yX10_asksWidow (wl_ yX10_asksWidow cX10_asksWidow 2 (some .boolean)) ({ frames := 4, cells := 0, slots := 0, locals := 82 } : Room) G (TY cI cJ cZ cB cQ) [.ref h0, .int p0] [(h0, oX10 b 0 0 0 0 0 0 0 0 (-1) 0 0 0 0 0 0 0 0 0), (b 1, .inl (cI, 149, .inl (fun _ => 0))), (b 15, .inl (cZ, 80, .inl (fun _ => 0))), (b 16, .inl (cI, 7, .inl (fun _ => 0))), (b 21, .inl (cZ, 80, .inl (fun _ => 0))), (b 24, .inl (cI, 80, .inl (fun _ => 0))), (b 25, .inl (cI, 6, .inl (fun _ => 0))), (b 29, .inl (cI, 6, .inl (fun _ => 0))), (b 30, .inl (cZ, 1040, .inl (fun _ => 0))), (b 31, .inl (cI, 1040, .inl (fun _ => 0))), (b 32, .inl (cI, 78, .inl (fun _ => 0))), (b 27, .inl (cI, 7, .inl (fun _ => 0)))] sz (fun (r : Int32) (u : (Nat → Int32)) => r = 0) (fun u : (Nat → Int32) => [(h0, oX10 b 0 0 0 0 0 0 0 0 (-1) 0 0 (-1) 0 0 0 0 0 0), (b 1, .inl (cI, 149, .inl (fun _ => 0))), (b 15, .inl (cZ, 80, .inl (fun _ => 0))), (b 16, .inl (cI, 7, .inl (fun _ => 0))), (b 21, .inl (cZ, 80, .inl (fun _ => 0))), (b 24, .inl (cI, 80, .inl (fun _ => 0))), (b 25, .inl (cI, 6, .inl (fun _ => 0))), (b 29, .inl (cI, 6, .inl (fun _ => 0))), (b 30, .inl (cZ, 1040, .inl (fun _ => 0))), (b 31, .inl (cI, 1040, .inl (fun _ => 0))), (b 32, .inl (cI, 78, .inl (fun _ => 0))), (b 27, .inl (cI, 7, .inl u))]) 0 0 := by
  refine CI.goz (cc := cX10_asksWidow) (maxL := 2) (ret := (some .boolean)) (by decide) rfl (Nat.le_of_ble_eq_true rfl) ?_
  intro p e s m below meth c A ls Q hBd hret
  obtain ⟨hx, hb, hr, hml, hts, hown, hlk, hnm, hP, hK, hD, hA, hZ, hl⟩ := hBd
  have hown : s.vm.findClass RX10 = some m.cls := hown
  have hl : lv_has ls 2 [(0, .ref h0), (1, .int p0)] := hl
  have hS : va_S A s.heap s.heap [] := va_S.rf
  refine lv_aload_n hx hb dX10_asksWidow_0 rfl (lv_at hl 0 rfl) ?_
  refine k_i (wc := [(h0, oX10 b 0 0 0 0 0 0 0 0 (-1) 0 0 0 0 0 0 0 0 0), (b 1, .inl (cI, 149, .inl (fun _ => 0))), (b 15, .inl (cZ, 80, .inl (fun _ => 0))), (b 16, .inl (cI, 7, .inl (fun _ => 0))), (b 21, .inl (cZ, 80, .inl (fun _ => 0))), (b 24, .inl (cI, 80, .inl (fun _ => 0))), (b 25, .inl (cI, 6, .inl (fun _ => 0))), (b 29, .inl (cI, 6, .inl (fun _ => 0))), (b 30, .inl (cZ, 1040, .inl (fun _ => 0))), (b 31, .inl (cI, 1040, .inl (fun _ => 0))), (b 32, .inl (cI, 78, .inl (fun _ => 0))), (b 27, .inl (cI, 7, .inl (fun _ => 0)))]) (wr := []) hP hD hS hA [0, 1, 2, 3, 4, 5, 6, 7, 8, 9, 10, 11] [] rfl rfl rfl (by decide) (va_runV (As := []) (rest := []) ⟨hx, hb, hml, hown, hts⟩ (f_X10_asksColony l G cI cJ cZ cB cQ _ h0 b) (cwV 0 hts (gV w_1485 w_1487 wp_105 w_11 w_1488) rfl rfl rfl ⟨rfl, hd_X10_asksColony⟩ ⟨Nat.le_of_ble_eq_true rfl, Nat.le_of_ble_eq_true rfl⟩) (mV hK hZ hP hD [0, 1, 2, 3, 4, 5, 6, 7, 8, 9, 10, 11] rfl rfl [] 0 10 rfl rfl) rfl rfl hl.1 rfl (lv_room (Nat.le_of_ble_eq_true rfl)) dX10_asksWidow_1 ⟨Nat.le_of_ble_eq_true rfl, Nat.le_of_ble_eq_true rfl⟩) (fun r1 u2 H locs hw3 hP hD hS => ?_)
  obtain ⟨f04, rfl⟩ : ∃ z, z = u2 := ⟨_, rfl⟩
  try dsimp only at hw3
  have hP : va_P G vwCl [(h0, oX10 b 0 0 0 0 0 0 0 0 (-1) 0 0 (-1) 0 0 0 0 0 0), (b 1, .inl (cI, 149, .inl (fun _ => 0))), (b 15, .inl (cZ, 80, .inl (fun _ => 0))), (b 16, .inl (cI, 7, .inl (fun _ => 0))), (b 21, .inl (cZ, 80, .inl (fun _ => 0))), (b 24, .inl (cI, 80, .inl (fun _ => 0))), (b 25, .inl (cI, 6, .inl (fun _ => 0))), (b 29, .inl (cI, 6, .inl (fun _ => 0))), (b 30, .inl (cZ, 1040, .inl (fun _ => 0))), (b 31, .inl (cI, 1040, .inl (fun _ => 0))), (b 32, .inl (cI, 78, .inl (fun _ => 0))), (b 27, .inl (cI, 7, .inl f04))] H := hP
  have hD : va_D A [(h0, oX10 b 0 0 0 0 0 0 0 0 (-1) 0 0 (-1) 0 0 0 0 0 0), (b 1, .inl (cI, 149, .inl (fun _ => 0))), (b 15, .inl (cZ, 80, .inl (fun _ => 0))), (b 16, .inl (cI, 7, .inl (fun _ => 0))), (b 21, .inl (cZ, 80, .inl (fun _ => 0))), (b 24, .inl (cI, 80, .inl (fun _ => 0))), (b 25, .inl (cI, 6, .inl (fun _ => 0))), (b 29, .inl (cI, 6, .inl (fun _ => 0))), (b 30, .inl (cZ, 1040, .inl (fun _ => 0))), (b 31, .inl (cI, 1040, .inl (fun _ => 0))), (b 32, .inl (cI, 78, .inl (fun _ => 0))), (b 27, .inl (cI, 7, .inl f04))] := hD
  obtain rfl : r1 = 0 := hw3
  refine lv_pop hx hb dX10_asksWidow_4 rfl ?_
  refine lv_aload_n hx hb dX10_asksWidow_5 rfl (lv_at hl 0 rfl) ?_
  refine lv_iload_n hx hb dX10_asksWidow_6 rfl (lv_at hl 1 rfl) ?_
  obtain ⟨v5, ev5⟩ : ∃ y : Int64, p0.toInt64 = y := ⟨_, rfl⟩
  have tv5 : v5.toInt = p0.toInt := ti_wide rfl ev5
  refine lv_i2l (v := v5) hx hb dX10_asksWidow_7 ev5 ?_
  refine k_i (wc := [(h0, oX10 b 0 0 0 0 0 0 0 0 (-1) 0 0 (-1) 0 0 0 0 0 0), (b 1, .inl (cI, 149, .inl (fun _ => 0)))]) (wr := [(b 15, .inl (cZ, 80, .inl (fun _ => 0))), (b 16, .inl (cI, 7, .inl (fun _ => 0))), (b 21, .inl (cZ, 80, .inl (fun _ => 0))), (b 24, .inl (cI, 80, .inl (fun _ => 0))), (b 25, .inl (cI, 6, .inl (fun _ => 0))), (b 29, .inl (cI, 6, .inl (fun _ => 0))), (b 30, .inl (cZ, 1040, .inl (fun _ => 0))), (b 31, .inl (cI, 1040, .inl (fun _ => 0))), (b 32, .inl (cI, 78, .inl (fun _ => 0))), (b 27, .inl (cI, 7, .inl f04))]) hP hD hS hA [0, 1] [2, 3, 4, 5, 6, 7, 8, 9, 10, 11] rfl rfl rfl (by decide) (va_runV (As := [.long v5]) (rest := []) ⟨hx, hb, hml, hown, hts⟩ (f_X10_isWidow l G cI cJ cZ cB cQ _ h0 b (-1) v5) (cwV 1 hts (gV w_1460 w_1462 wp_101 w_11 w_1463) rfl rfl rfl ⟨rfl, hd_X10_isWidow⟩ ⟨Nat.le_of_ble_eq_true rfl, Nat.le_of_ble_eq_true rfl⟩) (mV hK hZ hP hD [0, 1] rfl rfl [.long v5] 0 10 rfl rfl) rfl rfl hl.1 rfl (lv_room (Nat.le_of_ble_eq_true rfl)) dX10_asksWidow_8 ⟨Nat.le_of_ble_eq_true rfl, Nat.le_of_ble_eq_true rfl⟩) (fun r6 u7 H locs hw8 hP hD hS => ?_)
  try dsimp only at hw8
  have hP : va_P G vwCl [(b 15, .inl (cZ, 80, .inl (fun _ => 0))), (b 16, .inl (cI, 7, .inl (fun _ => 0))), (b 21, .inl (cZ, 80, .inl (fun _ => 0))), (b 24, .inl (cI, 80, .inl (fun _ => 0))), (b 25, .inl (cI, 6, .inl (fun _ => 0))), (b 29, .inl (cI, 6, .inl (fun _ => 0))), (b 30, .inl (cZ, 1040, .inl (fun _ => 0))), (b 31, .inl (cI, 1040, .inl (fun _ => 0))), (b 32, .inl (cI, 78, .inl (fun _ => 0))), (b 27, .inl (cI, 7, .inl f04)), (h0, oX10 b 0 0 0 0 0 0 0 0 (-1) 0 0 (-1) 0 0 0 0 0 0), (b 1, .inl (cI, 149, .inl (fun _ => 0)))] H := hP
  have hD : va_D A [(b 15, .inl (cZ, 80, .inl (fun _ => 0))), (b 16, .inl (cI, 7, .inl (fun _ => 0))), (b 21, .inl (cZ, 80, .inl (fun _ => 0))), (b 24, .inl (cI, 80, .inl (fun _ => 0))), (b 25, .inl (cI, 6, .inl (fun _ => 0))), (b 29, .inl (cI, 6, .inl (fun _ => 0))), (b 30, .inl (cZ, 1040, .inl (fun _ => 0))), (b 31, .inl (cI, 1040, .inl (fun _ => 0))), (b 32, .inl (cI, 78, .inl (fun _ => 0))), (b 27, .inl (cI, 7, .inl f04)), (h0, oX10 b 0 0 0 0 0 0 0 0 (-1) 0 0 (-1) 0 0 0 0 0 0), (b 1, .inl (cI, 149, .inl (fun _ => 0)))] := hD
  obtain rfl : r6 = 0 := hw8
  exact hret _ _ _ _ 0 f04 (hP.sub (ws' := [(h0, oX10 b 0 0 0 0 0 0 0 0 (-1) 0 0 (-1) 0 0 0 0 0 0), (b 1, .inl (cI, 149, .inl (fun _ => 0))), (b 15, .inl (cZ, 80, .inl (fun _ => 0))), (b 16, .inl (cI, 7, .inl (fun _ => 0))), (b 21, .inl (cZ, 80, .inl (fun _ => 0))), (b 24, .inl (cI, 80, .inl (fun _ => 0))), (b 25, .inl (cI, 6, .inl (fun _ => 0))), (b 29, .inl (cI, 6, .inl (fun _ => 0))), (b 30, .inl (cZ, 1040, .inl (fun _ => 0))), (b 31, .inl (cI, 1040, .inl (fun _ => 0))), (b 32, .inl (cI, 78, .inl (fun _ => 0))), (b 27, .inl (cI, 7, .inl f04))]) [10, 11, 0, 1, 2, 3, 4, 5, 6, 7, 8, 9] rfl) (hD.sub (ws' := [(h0, oX10 b 0 0 0 0 0 0 0 0 (-1) 0 0 (-1) 0 0 0 0 0 0), (b 1, .inl (cI, 149, .inl (fun _ => 0))), (b 15, .inl (cZ, 80, .inl (fun _ => 0))), (b 16, .inl (cI, 7, .inl (fun _ => 0))), (b 21, .inl (cZ, 80, .inl (fun _ => 0))), (b 24, .inl (cI, 80, .inl (fun _ => 0))), (b 25, .inl (cI, 6, .inl (fun _ => 0))), (b 29, .inl (cI, 6, .inl (fun _ => 0))), (b 30, .inl (cZ, 1040, .inl (fun _ => 0))), (b 31, .inl (cI, 1040, .inl (fun _ => 0))), (b 32, .inl (cI, 78, .inl (fun _ => 0))), (b 27, .inl (cI, 7, .inl f04))]) [10, 11, 0, 1, 2, 3, 4, 5, 6, 7, 8, 9] rfl rfl) hS dX10_asksWidow_11 rfl rfl
set_option maxHeartbeats 4000000 in
set_option maxRecDepth 100000 in
theorem f_X10_asksCell (l : Launch) (G : va_G) (cI cJ cZ cB cQ : ClassId) (sz : Nat) (h0 : Nat) (b : Nat → Nat) (p0 : Int32) : CI l yX10_asksCell (wl_ yX10_asksCell cX10_asksCell 2 (some .boolean)) ({ frames := 4, cells := 0, slots := 0, locals := 82 } : Room) G (TY cI cJ cZ cB cQ) [.ref h0, .int p0] [(h0, oX10 b 0 0 0 0 0 0 0 0 (-1) 0 0 0 0 0 0 0 0 0), (b 1, .inl (cI, 149, .inl (fun _ => 0))), (b 15, .inl (cZ, 80, .inl (fun _ => 0))), (b 16, .inl (cI, 7, .inl (fun _ => 0))), (b 21, .inl (cZ, 80, .inl (fun _ => 0))), (b 24, .inl (cI, 80, .inl (fun _ => 0))), (b 25, .inl (cI, 6, .inl (fun _ => 0))), (b 29, .inl (cI, 6, .inl (fun _ => 0))), (b 30, .inl (cZ, 1040, .inl (fun _ => 0))), (b 31, .inl (cI, 1040, .inl (fun _ => 0))), (b 32, .inl (cI, 78, .inl (fun _ => 0))), (b 27, .inl (cI, 7, .inl (fun _ => 0)))] sz (fun (r : Int32) (u : (Nat → Int32)) => r = 0) (fun u : (Nat → Int32) => [(h0, oX10 b 0 0 0 0 0 0 0 0 (-1) 0 0 (-1) 0 0 0 0 0 0), (b 1, .inl (cI, 149, .inl (fun _ => 0))), (b 15, .inl (cZ, 80, .inl (fun _ => 0))), (b 16, .inl (cI, 7, .inl (fun _ => 0))), (b 21, .inl (cZ, 80, .inl (fun _ => 0))), (b 24, .inl (cI, 80, .inl (fun _ => 0))), (b 25, .inl (cI, 6, .inl (fun _ => 0))), (b 29, .inl (cI, 6, .inl (fun _ => 0))), (b 30, .inl (cZ, 1040, .inl (fun _ => 0))), (b 31, .inl (cI, 1040, .inl (fun _ => 0))), (b 32, .inl (cI, 78, .inl (fun _ => 0))), (b 27, .inl (cI, 7, .inl u))]) 0 0 := by
  refine CI.goz (cc := cX10_asksCell) (maxL := 2) (ret := (some .boolean)) (by decide) rfl (Nat.le_of_ble_eq_true rfl) ?_
  intro p e s m below meth c A ls Q hBd hret
  obtain ⟨hx, hb, hr, hml, hts, hown, hlk, hnm, hP, hK, hD, hA, hZ, hl⟩ := hBd
  have hown : s.vm.findClass RX10 = some m.cls := hown
  have hl : lv_has ls 2 [(0, .ref h0), (1, .int p0)] := hl
  have hS : va_S A s.heap s.heap [] := va_S.rf
  refine lv_aload_n hx hb dX10_asksCell_0 rfl (lv_at hl 0 rfl) ?_
  refine k_i (wc := [(h0, oX10 b 0 0 0 0 0 0 0 0 (-1) 0 0 0 0 0 0 0 0 0), (b 1, .inl (cI, 149, .inl (fun _ => 0))), (b 15, .inl (cZ, 80, .inl (fun _ => 0))), (b 16, .inl (cI, 7, .inl (fun _ => 0))), (b 21, .inl (cZ, 80, .inl (fun _ => 0))), (b 24, .inl (cI, 80, .inl (fun _ => 0))), (b 25, .inl (cI, 6, .inl (fun _ => 0))), (b 29, .inl (cI, 6, .inl (fun _ => 0))), (b 30, .inl (cZ, 1040, .inl (fun _ => 0))), (b 31, .inl (cI, 1040, .inl (fun _ => 0))), (b 32, .inl (cI, 78, .inl (fun _ => 0))), (b 27, .inl (cI, 7, .inl (fun _ => 0)))]) (wr := []) hP hD hS hA [0, 1, 2, 3, 4, 5, 6, 7, 8, 9, 10, 11] [] rfl rfl rfl (by decide) (va_runV (As := []) (rest := []) ⟨hx, hb, hml, hown, hts⟩ (f_X10_asksColony l G cI cJ cZ cB cQ _ h0 b) (cwV 0 hts (gV w_1485 w_1487 wp_105 w_11 w_1488) rfl rfl rfl ⟨rfl, hd_X10_asksColony⟩ ⟨Nat.le_of_ble_eq_true rfl, Nat.le_of_ble_eq_true rfl⟩) (mV hK hZ hP hD [0, 1, 2, 3, 4, 5, 6, 7, 8, 9, 10, 11] rfl rfl [] 0 10 rfl rfl) rfl rfl hl.1 rfl (lv_room (Nat.le_of_ble_eq_true rfl)) dX10_asksCell_1 ⟨Nat.le_of_ble_eq_true rfl, Nat.le_of_ble_eq_true rfl⟩) (fun r1 u2 H locs hw3 hP hD hS => ?_)
  obtain ⟨f04, rfl⟩ : ∃ z, z = u2 := ⟨_, rfl⟩
  try dsimp only at hw3
  have hP : va_P G vwCl [(h0, oX10 b 0 0 0 0 0 0 0 0 (-1) 0 0 (-1) 0 0 0 0 0 0), (b 1, .inl (cI, 149, .inl (fun _ => 0))), (b 15, .inl (cZ, 80, .inl (fun _ => 0))), (b 16, .inl (cI, 7, .inl (fun _ => 0))), (b 21, .inl (cZ, 80, .inl (fun _ => 0))), (b 24, .inl (cI, 80, .inl (fun _ => 0))), (b 25, .inl (cI, 6, .inl (fun _ => 0))), (b 29, .inl (cI, 6, .inl (fun _ => 0))), (b 30, .inl (cZ, 1040, .inl (fun _ => 0))), (b 31, .inl (cI, 1040, .inl (fun _ => 0))), (b 32, .inl (cI, 78, .inl (fun _ => 0))), (b 27, .inl (cI, 7, .inl f04))] H := hP
  have hD : va_D A [(h0, oX10 b 0 0 0 0 0 0 0 0 (-1) 0 0 (-1) 0 0 0 0 0 0), (b 1, .inl (cI, 149, .inl (fun _ => 0))), (b 15, .inl (cZ, 80, .inl (fun _ => 0))), (b 16, .inl (cI, 7, .inl (fun _ => 0))), (b 21, .inl (cZ, 80, .inl (fun _ => 0))), (b 24, .inl (cI, 80, .inl (fun _ => 0))), (b 25, .inl (cI, 6, .inl (fun _ => 0))), (b 29, .inl (cI, 6, .inl (fun _ => 0))), (b 30, .inl (cZ, 1040, .inl (fun _ => 0))), (b 31, .inl (cI, 1040, .inl (fun _ => 0))), (b 32, .inl (cI, 78, .inl (fun _ => 0))), (b 27, .inl (cI, 7, .inl f04))] := hD
  obtain rfl : r1 = 0 := hw3
  refine lv_pop hx hb dX10_asksCell_4 rfl ?_
  refine lv_aload_n hx hb dX10_asksCell_5 rfl (lv_at hl 0 rfl) ?_
  refine lv_iload_n hx hb dX10_asksCell_6 rfl (lv_at hl 1 rfl) ?_
  obtain ⟨v5, ev5⟩ : ∃ y : Int64, p0.toInt64 = y := ⟨_, rfl⟩
  have tv5 : v5.toInt = p0.toInt := ti_wide rfl ev5
  refine lv_i2l (v := v5) hx hb dX10_asksCell_7 ev5 ?_
  refine k_i (wc := [(h0, oX10 b 0 0 0 0 0 0 0 0 (-1) 0 0 (-1) 0 0 0 0 0 0), (b 1, .inl (cI, 149, .inl (fun _ => 0)))]) (wr := [(b 15, .inl (cZ, 80, .inl (fun _ => 0))), (b 16, .inl (cI, 7, .inl (fun _ => 0))), (b 21, .inl (cZ, 80, .inl (fun _ => 0))), (b 24, .inl (cI, 80, .inl (fun _ => 0))), (b 25, .inl (cI, 6, .inl (fun _ => 0))), (b 29, .inl (cI, 6, .inl (fun _ => 0))), (b 30, .inl (cZ, 1040, .inl (fun _ => 0))), (b 31, .inl (cI, 1040, .inl (fun _ => 0))), (b 32, .inl (cI, 78, .inl (fun _ => 0))), (b 27, .inl (cI, 7, .inl f04))]) hP hD hS hA [0, 1] [2, 3, 4, 5, 6, 7, 8, 9, 10, 11] rfl rfl rfl (by decide) (va_runV (As := [.long v5]) (rest := []) ⟨hx, hb, hml, hown, hts⟩ (f_X10_isCell l G cI cJ cZ cB cQ _ h0 b (-1) v5) (cwV 1 hts (gV w_1550 w_1552 wp_119 w_11 w_1553) rfl rfl rfl ⟨rfl, hd_X10_isCell⟩ ⟨Nat.le_of_ble_eq_true rfl, Nat.le_of_ble_eq_true rfl⟩) (mV hK hZ hP hD [0, 1] rfl rfl [.long v5] 0 10 rfl rfl) rfl rfl hl.1 rfl (lv_room (Nat.le_of_ble_eq_true rfl)) dX10_asksCell_8 ⟨Nat.le_of_ble_eq_true rfl, Nat.le_of_ble_eq_true rfl⟩) (fun r6 u7 H locs hw8 hP hD hS => ?_)
  try dsimp only at hw8
  have hP : va_P G vwCl [(b 15, .inl (cZ, 80, .inl (fun _ => 0))), (b 16, .inl (cI, 7, .inl (fun _ => 0))), (b 21, .inl (cZ, 80, .inl (fun _ => 0))), (b 24, .inl (cI, 80, .inl (fun _ => 0))), (b 25, .inl (cI, 6, .inl (fun _ => 0))), (b 29, .inl (cI, 6, .inl (fun _ => 0))), (b 30, .inl (cZ, 1040, .inl (fun _ => 0))), (b 31, .inl (cI, 1040, .inl (fun _ => 0))), (b 32, .inl (cI, 78, .inl (fun _ => 0))), (b 27, .inl (cI, 7, .inl f04)), (h0, oX10 b 0 0 0 0 0 0 0 0 (-1) 0 0 (-1) 0 0 0 0 0 0), (b 1, .inl (cI, 149, .inl (fun _ => 0)))] H := hP
  have hD : va_D A [(b 15, .inl (cZ, 80, .inl (fun _ => 0))), (b 16, .inl (cI, 7, .inl (fun _ => 0))), (b 21, .inl (cZ, 80, .inl (fun _ => 0))), (b 24, .inl (cI, 80, .inl (fun _ => 0))), (b 25, .inl (cI, 6, .inl (fun _ => 0))), (b 29, .inl (cI, 6, .inl (fun _ => 0))), (b 30, .inl (cZ, 1040, .inl (fun _ => 0))), (b 31, .inl (cI, 1040, .inl (fun _ => 0))), (b 32, .inl (cI, 78, .inl (fun _ => 0))), (b 27, .inl (cI, 7, .inl f04)), (h0, oX10 b 0 0 0 0 0 0 0 0 (-1) 0 0 (-1) 0 0 0 0 0 0), (b 1, .inl (cI, 149, .inl (fun _ => 0)))] := hD
  obtain rfl : r6 = 0 := hw8
  exact hret _ _ _ _ 0 f04 (hP.sub (ws' := [(h0, oX10 b 0 0 0 0 0 0 0 0 (-1) 0 0 (-1) 0 0 0 0 0 0), (b 1, .inl (cI, 149, .inl (fun _ => 0))), (b 15, .inl (cZ, 80, .inl (fun _ => 0))), (b 16, .inl (cI, 7, .inl (fun _ => 0))), (b 21, .inl (cZ, 80, .inl (fun _ => 0))), (b 24, .inl (cI, 80, .inl (fun _ => 0))), (b 25, .inl (cI, 6, .inl (fun _ => 0))), (b 29, .inl (cI, 6, .inl (fun _ => 0))), (b 30, .inl (cZ, 1040, .inl (fun _ => 0))), (b 31, .inl (cI, 1040, .inl (fun _ => 0))), (b 32, .inl (cI, 78, .inl (fun _ => 0))), (b 27, .inl (cI, 7, .inl f04))]) [10, 11, 0, 1, 2, 3, 4, 5, 6, 7, 8, 9] rfl) (hD.sub (ws' := [(h0, oX10 b 0 0 0 0 0 0 0 0 (-1) 0 0 (-1) 0 0 0 0 0 0), (b 1, .inl (cI, 149, .inl (fun _ => 0))), (b 15, .inl (cZ, 80, .inl (fun _ => 0))), (b 16, .inl (cI, 7, .inl (fun _ => 0))), (b 21, .inl (cZ, 80, .inl (fun _ => 0))), (b 24, .inl (cI, 80, .inl (fun _ => 0))), (b 25, .inl (cI, 6, .inl (fun _ => 0))), (b 29, .inl (cI, 6, .inl (fun _ => 0))), (b 30, .inl (cZ, 1040, .inl (fun _ => 0))), (b 31, .inl (cI, 1040, .inl (fun _ => 0))), (b 32, .inl (cI, 78, .inl (fun _ => 0))), (b 27, .inl (cI, 7, .inl f04))]) [10, 11, 0, 1, 2, 3, 4, 5, 6, 7, 8, 9] rfl rfl) hS dX10_asksCell_11 rfl rfl
set_option maxHeartbeats 4000000 in
set_option maxRecDepth 100000 in
theorem f_X10_beginSets (l : Launch) (G : va_G) (cI cJ cZ cB cQ : ClassId) (sz : Nat) (h0 : Nat) (b : Nat → Nat) : CV l yX10_beginSets (wl_ yX10_beginSets cX10_beginSets 1 none) ({ frames := 3, cells := 0, slots := 0, locals := 62 } : Room) G (TY cI cJ cZ cB cQ) [.ref h0] [(h0, oX10 b 0 0 0 0 0 0 0 0 (-1) 0 0 0 0 0 0 0 0 0), (b 1, .inl (cI, 149, .inl (fun _ => 0))), (b 15, .inl (cZ, 80, .inl (fun _ => 0))), (b 16, .inl (cI, 7, .inl (fun _ => 0)))] sz (fun (u : Unit) => True) (fun _ : Unit => [(h0, oX10 b 0 0 0 0 0 0 0 0 (-1) 0 0 (-1) 0 0 0 0 0 0), (b 1, .inl (cI, 149, .inl (fun _ => 0))), (b 15, .inl (cZ, 80, .inl (fun _ => 0))), (b 16, .inl (cI, 7, .inl (fun _ => 0)))]) 0 0 := by
  refine CV.go (cc := cX10_beginSets) (maxL := 1) (ret := none) (by decide) rfl (Nat.le_of_ble_eq_true rfl) ?_
  intro p e s m below meth c A ls Q hBd hret
  obtain ⟨hx, hb, hr, hml, hts, hown, hlk, hnm, hP, hK, hD, hA, hZ, hl⟩ := hBd
  have hown : s.vm.findClass RX10 = some m.cls := hown
  have hl : lv_has ls 1 [(0, .ref h0)] := hl
  have hS : va_S A s.heap s.heap [] := va_S.rf
  refine lv_aload_n hx hb dX10_beginSets_0 rfl (lv_at hl 0 rfl) ?_
  refine k_v (wc := [(h0, oX10 b 0 0 0 0 0 0 0 0 (-1) 0 0 0 0 0 0 0 0 0), (b 1, .inl (cI, 149, .inl (fun _ => 0))), (b 15, .inl (cZ, 80, .inl (fun _ => 0))), (b 16, .inl (cI, 7, .inl (fun _ => 0)))]) (wr := []) hP hD hS hA [0, 1, 2, 3] [] rfl rfl rfl (by decide) (va_runV (As := []) (rest := []) ⟨hx, hb, hml, hown, hts⟩ (f_X10_asItIs l G cI cJ cZ cB cQ _ h0 b) (cwV 0 hts (gV w_1489 w_1491 wp_106 w_11 w_1492) rfl rfl rfl ⟨rfl, hd_X10_asItIs⟩ ⟨Nat.le_of_ble_eq_true rfl, Nat.le_of_ble_eq_true rfl⟩) (mV hK hZ hP hD [0, 1, 2, 3] rfl rfl [] 0 10 rfl rfl) rfl rfl hl.1 rfl (lv_room (Nat.le_of_ble_eq_true rfl)) dX10_beginSets_1 ⟨Nat.le_of_ble_eq_true rfl, Nat.le_of_ble_eq_true rfl⟩) (fun u2 H locs hw3 hP hD hS => ?_)
  have hP : va_P G vwCl [(h0, oX10 b 0 0 0 0 0 0 0 0 (-1) 0 0 (-1) 0 0 0 0 0 0), (b 1, .inl (cI, 149, .inl (fun _ => 0))), (b 15, .inl (cZ, 80, .inl (fun _ => 0))), (b 16, .inl (cI, 7, .inl (fun _ => 0)))] H := hP
  have hD : va_D A [(h0, oX10 b 0 0 0 0 0 0 0 0 (-1) 0 0 (-1) 0 0 0 0 0 0), (b 1, .inl (cI, 149, .inl (fun _ => 0))), (b 15, .inl (cZ, 80, .inl (fun _ => 0))), (b 16, .inl (cI, 7, .inl (fun _ => 0)))] := hD
  refine lv_aload_n hx hb dX10_beginSets_4 rfl (lv_at hl 0 rfl) ?_
  refine lv_aload_n hx hb dX10_beginSets_5 rfl (lv_at hl 0 rfl) ?_
  refine va_get (D := G) (ci := 10) (v := .int 0) (C := RX10) (T := TX10) (N := 46) hx hb hts iG_X10 hown hK hP 0 rfl rfl 18 (by decide) (hts _ w_1210) (fun _ h9 => h9) rfl dX10_beginSets_6 ?_
  refine va_put (D := G) (ci := 10) (v := .int 0) (ty := .int) (C := RX10) (T := TX10) (N := 46) hx hb hts iG_X10 tyX10 tyX10_ok nmX10 hown hK hP hD hS 0 rfl rfl 38 (by decide) (hts _ w_1230) (fun _ h9 => h9) rfl (by decide +kernel) rfl rfl (Nat.le_of_ble_eq_true rfl) dX10_beginSets_9 (fun H locs hP hD hS => ?_)
  have hP : va_P G vwCl [(h0, oX10 b 0 0 0 0 0 0 0 0 (-1) 0 0 (-1) 0 0 0 0 0 0), (b 1, .inl (cI, 149, .inl (fun _ => 0))), (b 15, .inl (cZ, 80, .inl (fun _ => 0))), (b 16, .inl (cI, 7, .inl (fun _ => 0)))] H := hP
  have hD : va_D A [(h0, oX10 b 0 0 0 0 0 0 0 0 (-1) 0 0 (-1) 0 0 0 0 0 0), (b 1, .inl (cI, 149, .inl (fun _ => 0))), (b 15, .inl (cZ, 80, .inl (fun _ => 0))), (b 16, .inl (cI, 7, .inl (fun _ => 0)))] := hD
  exact hret _ _ _ _ () hP hD hS dX10_beginSets_12 trivial
set_option maxHeartbeats 4000000 in
set_option maxRecDepth 100000 in
theorem f_X10_askSeen (l : Launch) (G : va_G) (cI cJ cZ cB cQ : ClassId) (sz : Nat) (h0 : Nat) (b : Nat → Nat) (ow : Int32) (p0 : Int32) : CI l yX10_askSeen (wl_ yX10_askSeen cX10_askSeen 3 (some .int)) ({ frames := 2, cells := 0, slots := 0, locals := 45 } : Room) G (TY cI cJ cZ cB cQ) [.ref h0, .int p0] [(h0, oX10 b 0 0 0 0 0 0 0 0 (-1) 0 0 ow 0 0 0 0 0 0), (b 1, .inl (cI, 149, .inl (fun _ => 0)))] sz (fun (r : Int32) (u : Unit) => r = (-2)) (fun _ : Unit => [(h0, oX10 b 0 0 0 0 0 0 0 0 (-1) 0 0 ow 0 0 0 0 0 0), (b 1, .inl (cI, 149, .inl (fun _ => 0)))]) 0 0 := by
  refine CI.go (cc := cX10_askSeen) (maxL := 3) (ret := (some .int)) (by decide) rfl (Nat.le_of_ble_eq_true rfl) ?_
  intro p e s m below meth c A ls Q hBd hret
  obtain ⟨hx, hb, hr, hml, hts, hown, hlk, hnm, hP, hK, hD, hA, hZ, hl⟩ := hBd
  have hown : s.vm.findClass RX10 = some m.cls := hown
  have hl : lv_has ls 3 [(0, .ref h0), (1, .int p0)] := hl
  have hS : va_S A s.heap s.heap [] := va_S.rf
  refine lv_iload_n hx hb dX10_askSeen_0 rfl (lv_at hl 1 rfl) ?_
  refine k_i (wc := []) (wr := [(h0, oX10 b 0 0 0 0 0 0 0 0 (-1) 0 0 ow 0 0 0 0 0 0), (b 1, .inl (cI, 149, .inl (fun _ => 0)))]) hP hD hS hA [] [0, 1] rfl rfl rfl (by decide) (va_runS (As := [.int p0]) (rest := []) ⟨hx, hb, hml, hown, hts⟩ (f_X10_isSlot l G cI cJ cZ cB cQ _ p0 p0.toInt rfl) (va_cwS 1 hts (gS w_1816 w_1817 w_11 w_1818) rfl rfl rfl hd_X10_isSlot ⟨Nat.le_of_ble_eq_true rfl, Nat.le_of_ble_eq_true rfl⟩) (mS hK hZ hP hD [] rfl rfl [.int p0]) rfl rfl hl.1 rfl (lv_room (Nat.le_of_ble_eq_true rfl)) dX10_askSeen_1 ⟨Nat.le_of_ble_eq_true rfl, Nat.le_of_ble_eq_true rfl⟩) (fun r1 u2 H locs hw3 hP hD hS => ?_)
  try dsimp only at hw3
  have hP : va_P G vwCl [(h0, oX10 b 0 0 0 0 0 0 0 0 (-1) 0 0 ow 0 0 0 0 0 0), (b 1, .inl (cI, 149, .inl (fun _ => 0)))] H := hP
  have hD : va_D A [(h0, oX10 b 0 0 0 0 0 0 0 0 (-1) 0 0 ow 0 0 0 0 0 0), (b 1, .inl (cI, 149, .inl (fun _ => 0)))] := hD
  rcases hw3 with ⟨rfl, a4, b5⟩ | ⟨rfl, a4⟩
  · skip
    refine lv_if_eq (tgt := 14) hx hb dX10_askSeen_4 (by decide) (fun c6 => absurd c6 (by decide)) (fun c6 => ?_)
    refine lv_aload_n hx hb dX10_askSeen_7 rfl (lv_at hl 0 rfl) ?_
    refine k_i (wc := [(h0, oX10 b 0 0 0 0 0 0 0 0 (-1) 0 0 ow 0 0 0 0 0 0), (b 1, .inl (cI, 149, .inl (fun _ => 0)))]) (wr := []) hP hD hS hA [0, 1] [] rfl rfl rfl (by decide) (va_runV (As := []) (rest := []) ⟨hx, hb, hml, hown, hts⟩ (f_X10_isColony l G cI cJ cZ cB cQ _ h0 b ow) (cwV 0 hts (gV w_1554 w_1556 wp_120 w_11 w_1557) rfl rfl rfl ⟨rfl, hd_X10_isColony⟩ ⟨Nat.le_of_ble_eq_true rfl, Nat.le_of_ble_eq_true rfl⟩) (mV hK hZ hP hD [0, 1] rfl rfl [] 0 10 rfl rfl) rfl rfl hl.1 rfl (lv_room (Nat.le_of_ble_eq_true rfl)) dX10_askSeen_8 ⟨Nat.le_of_ble_eq_true rfl, Nat.le_of_ble_eq_true rfl⟩) (fun r7 u8 H locs hw9 hP hD hS => ?_)
    try dsimp only at hw9
    have hP : va_P G vwCl [(h0, oX10 b 0 0 0 0 0 0 0 0 (-1) 0 0 ow 0 0 0 0 0 0), (b 1, .inl (cI, 149, .inl (fun _ => 0)))] H := hP
    have hD : va_D A [(h0, oX10 b 0 0 0 0 0 0 0 0 (-1) 0 0 ow 0 0 0 0 0 0), (b 1, .inl (cI, 149, .inl (fun _ => 0)))] := hD
    obtain rfl : r7 = 0 := hw9
    refine lv_if_ne (tgt := 17) hx hb dX10_askSeen_11 (by decide) (fun c10 => absurd (by decide) c10) (fun c10 => ?_)
    refine lv_bipush (v := (-2)) hx hb dX10_askSeen_14 (by decide) ?_
    exact hret _ _ _ _ (-2) () hP hD hS dX10_askSeen_16 rfl
  · skip
    refine lv_if_eq (tgt := 14) hx hb dX10_askSeen_4 (by decide) (fun c11 => ?_) (fun c11 => absurd (by decide) c11)
    refine lv_bipush (v := (-2)) hx hb dX10_askSeen_14 (by decide) ?_
    exact hret _ _ _ _ (-2) () hP hD hS dX10_askSeen_16 rfl
set_option maxHeartbeats 4000000 in
set_option maxRecDepth 100000 in
theorem f_X10_askSeen_ (l : Launch) (G : va_G) (cI cJ cZ cB cQ : ClassId) (sz : Nat) (h0 : Nat) (b : Nat → Nat) (ow : Int32) (p0 : Int32) (p1 : Int32) : CI l yX10_askSeen_ (wl_ yX10_askSeen_ cX10_askSeen_ 3 (some .int)) ({ frames := 2, cells := 0, slots := 0, locals := 47 } : Room) G (TY cI cJ cZ cB cQ) [.ref h0, .int p0, .int p1] [(h0, oX10 b 0 0 0 0 0 0 0 0 (-1) 0 0 ow 0 0 0 0 0 0), (b 1, .inl (cI, 149, .inl (fun _ => 0)))] sz (fun (r : Int32) (u : Unit) => r = (-2)) (fun _ : Unit => [(h0, oX10 b 0 0 0 0 0 0 0 0 (-1) 0 0 ow 0 0 0 0 0 0), (b 1, .inl (cI, 149, .inl (fun _ => 0)))]) 0 0 := by
  refine CI.go (cc := cX10_askSeen_) (maxL := 3) (ret := (some .int)) (by decide) rfl (Nat.le_of_ble_eq_true rfl) ?_
  intro p e s m below meth c A ls Q hBd hret
  obtain ⟨hx, hb, hr, hml, hts, hown, hlk, hnm, hP, hK, hD, hA, hZ, hl⟩ := hBd
  have hown : s.vm.findClass RX10 = some m.cls := hown
  have hl : lv_has ls 3 [(0, .ref h0), (1, .int p0), (2, .int p1)] := hl
  have hS : va_S A s.heap s.heap [] := va_S.rf
  refine lv_aload_n hx hb dX10_askSeen__0 rfl (lv_at hl 0 rfl) ?_
  refine lv_iload_n hx hb dX10_askSeen__1 rfl (lv_at hl 2 rfl) ?_
  obtain ⟨v1, ev1⟩ : ∃ y : Int64, p1.toInt64 = y := ⟨_, rfl⟩
  have tv1 : v1.toInt = p1.toInt := ti_wide rfl ev1
  refine lv_i2l (v := v1) hx hb dX10_askSeen__2 ev1 ?_
  refine k_i (wc := [(h0, oX10 b 0 0 0 0 0 0 0 0 (-1) 0 0 ow 0 0 0 0 0 0), (b 1, .inl (cI, 149, .inl (fun _ => 0)))]) (wr := []) hP hD hS hA [0, 1] [] rfl rfl rfl (by decide) (va_runV (As := [.long v1]) (rest := []) ⟨hx, hb, hml, hown, hts⟩ (f_X10_isWidow l G cI cJ cZ cB cQ _ h0 b ow v1) (cwV 1 hts (gV w_1460 w_1462 wp_101 w_11 w_1463) rfl rfl rfl ⟨rfl, hd_X10_isWidow⟩ ⟨Nat.le_of_ble_eq_true rfl, Nat.le_of_ble_eq_true rfl⟩) (mV hK hZ hP hD [0, 1] rfl rfl [.long v1] 0 10 rfl rfl) rfl rfl hl.1 rfl (lv_room (Nat.le_of_ble_eq_true rfl)) dX10_askSeen__3 ⟨Nat.le_of_ble_eq_true rfl, Nat.le_of_ble_eq_true rfl⟩) (fun r2 u3 H locs hw4 hP hD hS => ?_)
  try dsimp only at hw4
  have hP : va_P G vwCl [(h0, oX10 b 0 0 0 0 0 0 0 0 (-1) 0 0 ow 0 0 0 0 0 0), (b 1, .inl (cI, 149, .inl (fun _ => 0)))] H := hP
  have hD : va_D A [(h0, oX10 b 0 0 0 0 0 0 0 0 (-1) 0 0 ow 0 0 0 0 0 0), (b 1, .inl (cI, 149, .inl (fun _ => 0)))] := hD
  obtain rfl : r2 = 0 := hw4
  refine lv_if_eq (tgt := 17) hx hb dX10_askSeen__6 (by decide) (fun c5 => ?_) (fun c5 => absurd (by decide) c5)
  refine lv_bipush (v := (-2)) hx hb dX10_askSeen__17 (by decide) ?_
  exact hret _ _ _ _ (-2) () hP hD hS dX10_askSeen__19 rfl
set_option maxHeartbeats 4000000 in
set_option maxRecDepth 100000 in
theorem f_X10_good (l : Launch) (G : va_G) (cI cJ cZ cB cQ : ClassId) (sz : Nat) (h0 : Nat) (b : Nat → Nat) (ow : Int32) (tk : Int32) : CI l yX10_good (wl_ yX10_good cX10_good 1 (some .boolean)) ({ frames := 0, cells := 0, slots := 0, locals := 0 } : Room) G (TY cI cJ cZ cB cQ) [.ref h0] [(h0, oX10 b 0 0 0 0 0 tk 0 0 (-1) 0 0 ow 0 0 0 0 0 0)] sz (fun (r : Int32) (u : Unit) => r = 1) (fun _ : Unit => [(h0, oX10 b 0 0 0 0 0 tk 0 0 (-1) 0 0 ow 0 0 0 0 0 0)]) 0 0 := by
  refine CI.goz (cc := cX10_good) (maxL := 1) (ret := (some .boolean)) (by decide) rfl (Nat.le_of_ble_eq_true rfl) ?_
  intro p e s m below meth c A ls Q hBd hret
  obtain ⟨hx, hb, hr, hml, hts, hown, hlk, hnm, hP, hK, hD, hA, hZ, hl⟩ := hBd
  have hown : s.vm.findClass RX10 = some m.cls := hown
  have hl : lv_has ls 1 [(0, .ref h0)] := hl
  have hS : va_S A s.heap s.heap [] := va_S.rf
  refine lv_aload_n hx hb dX10_good_0 rfl (lv_at hl 0 rfl) ?_
  refine va_get (D := G) (ci := 10) (v := .int 0) (C := RX10) (T := TX10) (N := 46) hx hb hts iG_X10 hown hK hP 0 rfl rfl 12 (by decide) (hts _ w_1204) (fun _ h9 => h9) rfl dX10_good_1 ?_
  refine lv_if_ne (tgt := 11) hx hb dX10_good_4 (by decide) (fun c1 => absurd (by decide) c1) (fun c1 => ?_)
  refine lv_iconst (v := 1) hx hb dX10_good_7 (by decide) ?_
  refine lv_goto (tgt := 12) hx hb dX10_good_8 (by decide) ?_
  exact hret _ _ _ _ 1 () hP hD hS dX10_good_12 rfl rfl
set_option maxHeartbeats 4000000 in
set_option maxRecDepth 100000 in
theorem f_X10_see (l : Launch) (G : va_G) (cI cJ cZ cB cQ : ClassId) (sz : Nat) (h0 : Nat) (b : Nat → Nat) : CI l yX10_see (wl_ yX10_see cX10_see 2 (some .int)) ({ frames := 0, cells := 0, slots := 0, locals := 0 } : Room) G (TY cI cJ cZ cB cQ) [.ref h0, .int 0] [(h0, oX10 b 0 0 0 0 0 0 0 0 (-1) 0 0 0 0 0 0 0 0 0)] sz (fun (r : Int32) (u : Unit) => r = (-1)) (fun _ : Unit => [(h0, oX10 b 0 0 0 0 0 0 0 0 (-1) 0 0 0 0 0 0 0 0 0)]) 0 0 := by
  refine CI.go (cc := cX10_see) (maxL := 2) (ret := (some .int)) (by decide) rfl (Nat.le_of_ble_eq_true rfl) ?_
  intro p e s m below meth c A ls Q hBd hret
  obtain ⟨hx, hb, hr, hml, hts, hown, hlk, hnm, hP, hK, hD, hA, hZ, hl⟩ := hBd
  have hown : s.vm.findClass RX10 = some m.cls := hown
  have hl : lv_has ls 2 [(0, .ref h0), (1, .int 0)] := hl
  have hS : va_S A s.heap s.heap [] := va_S.rf
  refine lv_iload_n hx hb dX10_see_0 rfl (lv_at hl 1 rfl) ?_
  refine lv_aload_n hx hb dX10_see_1 rfl (lv_at hl 0 rfl) ?_
  refine va_get (D := G) (ci := 10) (v := .int 0) (C := RX10) (T := TX10) (N := 46) hx hb hts iG_X10 hown hK hP 0 rfl rfl 7 (by decide) (hts _ w_1199) (fun _ h9 => h9) rfl dX10_see_2 ?_
  refine lv_icmp_ge (tgt := 21) hx hb dX10_see_5 (by decide) (fun c1 => ?_) (fun c1 => absurd (by decide) c1)
  refine lv_iconst (v := (-1)) hx hb dX10_see_21 (by decide) ?_
  exact hret _ _ _ _ (-1) () hP hD hS dX10_see_22 rfl
set_option maxHeartbeats 4000000 in
set_option maxRecDepth 100000 in
theorem f_X10_advance (l : Launch) (G : va_G) (cI cJ cZ cB cQ : ClassId) (sz : Nat) (h0 : Nat) (b : Nat → Nat) : CV l yX10_advance (wl_ yX10_advance cX10_advance 2 none) ({ frames := 1, cells := 0, slots := 0, locals := 21 } : Room) G (TY cI cJ cZ cB cQ) [.ref h0] [(h0, oX10 b 0 0 0 0 0 0 0 0 (-1) 0 0 0 0 0 0 0 0 0)] sz (fun (u : Unit) => True) (fun _ : Unit => [(h0, oX10 b 0 0 0 0 0 0 0 0 (-1) 0 0 0 0 0 0 0 0 0)]) 0 0 := by
  refine CV.go (cc := cX10_advance) (maxL := 2) (ret := none) (by decide) rfl (Nat.le_of_ble_eq_true rfl) ?_
  intro p e s m below meth c A ls Q hBd hret
  obtain ⟨hx, hb, hr, hml, hts, hown, hlk, hnm, hP, hK, hD, hA, hZ, hl⟩ := hBd
  have hown : s.vm.findClass RX10 = some m.cls := hown
  have hl : lv_has ls 2 [(0, .ref h0)] := hl
  have hS : va_S A s.heap s.heap [] := va_S.rf
  refine lv_aload_n hx hb dX10_advance_0 rfl (lv_at hl 0 rfl) ?_
  refine lv_aload_n hx hb dX10_advance_1 rfl (lv_at hl 0 rfl) ?_
  refine va_get (D := G) (ci := 10) (v := .int 0) (C := RX10) (T := TX10) (N := 46) hx hb hts iG_X10 hown hK hP 0 rfl rfl 8 (by decide) (hts _ w_1200) (fun _ h9 => h9) rfl dX10_advance_2 ?_
  refine k_i (wc := [(h0, oX10 b 0 0 0 0 0 0 0 0 (-1) 0 0 0 0 0 0 0 0 0)]) (wr := []) hP hD hS hA [0] [] rfl rfl rfl (by decide) (va_runV (As := [.int 0]) (rest := []) ⟨hx, hb, hml, hown, hts⟩ (f_X10_see l G cI cJ cZ cB cQ _ h0 b) (cwV 1 hts (gV w_1363 w_1365 wp_84 w_11 w_1366) rfl rfl rfl ⟨rfl, hd_X10_see⟩ ⟨Nat.le_of_ble_eq_true rfl, Nat.le_of_ble_eq_true rfl⟩) (mV hK hZ hP hD [0] rfl rfl [.int 0] 0 10 rfl rfl) rfl rfl hl.1 rfl (lv_room (Nat.le_of_ble_eq_true rfl)) dX10_advance_5 ⟨Nat.le_of_ble_eq_true rfl, Nat.le_of_ble_eq_true rfl⟩) (fun r1 u2 H locs hw3 hP hD hS => ?_)
  try dsimp only at hw3
  have hP : va_P G vwCl [(h0, oX10 b 0 0 0 0 0 0 0 0 (-1) 0 0 0 0 0 0 0 0 0)] H := hP
  have hD : va_D A [(h0, oX10 b 0 0 0 0 0 0 0 0 (-1) 0 0 0 0 0 0 0 0 0)] := hD
  obtain rfl : r1 = (-1) := hw3
  refine lv_bipush (v := 32) hx hb dX10_advance_8 (by decide) ?_
  refine lv_icmp_eq (tgt := 26) hx hb dX10_advance_10 (by decide) (fun c4 => absurd c4 (by decide)) (fun c4 => ?_)
  refine lv_aload_n hx hb dX10_advance_13 rfl (lv_at hl 0 rfl) ?_
  refine lv_aload_n hx hb dX10_advance_14 rfl (lv_at hl 0 rfl) ?_
  refine va_get (D := G) (ci := 10) (v := .int 0) (C := RX10) (T := TX10) (N := 46) hx hb hts iG_X10 hown hK hP 0 rfl rfl 8 (by decide) (hts _ w_1200) (fun _ h9 => h9) rfl dX10_advance_15 ?_
  refine k_i (wc := [(h0, oX10 b 0 0 0 0 0 0 0 0 (-1) 0 0 0 0 0 0 0 0 0)]) (wr := []) hP hD hS hA [0] [] rfl rfl rfl (by decide) (va_runV (As := [.int 0]) (rest := []) ⟨hx, hb, hml, hown, hts⟩ (f_X10_see l G cI cJ cZ cB cQ _ h0 b) (cwV 1 hts (gV w_1363 w_1365 wp_84 w_11 w_1366) rfl rfl rfl ⟨rfl, hd_X10_see⟩ ⟨Nat.le_of_ble_eq_true rfl, Nat.le_of_ble_eq_true rfl⟩) (mV hK hZ hP hD [0] rfl rfl [.int 0] 0 10 rfl rfl) rfl rfl hl.1 rfl (lv_room (Nat.le_of_ble_eq_true rfl)) dX10_advance_18 ⟨Nat.le_of_ble_eq_true rfl, Nat.le_of_ble_eq_true rfl⟩) (fun r5 u6 H locs hw7 hP hD hS => ?_)
  try dsimp only at hw7
  have hP : va_P G vwCl [(h0, oX10 b 0 0 0 0 0 0 0 0 (-1) 0 0 0 0 0 0 0 0 0)] H := hP
  have hD : va_D A [(h0, oX10 b 0 0 0 0 0 0 0 0 (-1) 0 0 0 0 0 0 0 0 0)] := hD
  obtain rfl : r5 = (-1) := hw7
  refine lv_bipush (v := 10) hx hb dX10_advance_21 (by decide) ?_
  refine lv_icmp_ne (tgt := 39) hx hb dX10_advance_23 (by decide) (fun c8 => ?_) (fun c8 => absurd c8 (by decide))
  refine lv_aload_n hx hb dX10_advance_39 rfl (lv_at hl 0 rfl) ?_
  refine lv_aload_n hx hb dX10_advance_40 rfl (lv_at hl 0 rfl) ?_
  refine va_get (D := G) (ci := 10) (v := .int 0) (C := RX10) (T := TX10) (N := 46) hx hb hts iG_X10 hown hK hP 0 rfl rfl 8 (by decide) (hts _ w_1200) (fun _ h9 => h9) rfl dX10_advance_41 ?_
  refine va_put (D := G) (ci := 10) (v := .int 0) (ty := .int) (C := RX10) (T := TX10) (N := 46) hx hb hts iG_X10 tyX10 tyX10_ok nmX10 hown hK hP hD hS 0 rfl rfl 9 (by decide) (hts _ w_1201) (fun _ h9 => h9) rfl (by decide +kernel) rfl rfl (Nat.le_of_ble_eq_true rfl) dX10_advance_44 (fun H locs hP hD hS => ?_)
  have hP : va_P G vwCl [(h0, oX10 b 0 0 0 0 0 0 0 0 (-1) 0 0 0 0 0 0 0 0 0)] H := hP
  have hD : va_D A [(h0, oX10 b 0 0 0 0 0 0 0 0 (-1) 0 0 0 0 0 0 0 0 0)] := hD
  refine lv_aload_n hx hb dX10_advance_47 rfl (lv_at hl 0 rfl) ?_
  refine lv_aload_n hx hb dX10_advance_48 rfl (lv_at hl 0 rfl) ?_
  refine va_get (D := G) (ci := 10) (v := .int 0) (C := RX10) (T := TX10) (N := 46) hx hb hts iG_X10 hown hK hP 0 rfl rfl 8 (by decide) (hts _ w_1200) (fun _ h9 => h9) rfl dX10_advance_49 ?_
  refine k_i (wc := [(h0, oX10 b 0 0 0 0 0 0 0 0 (-1) 0 0 0 0 0 0 0 0 0)]) (wr := []) hP hD hS hA [0] [] rfl rfl rfl (by decide) (va_runV (As := [.int 0]) (rest := []) ⟨hx, hb, hml, hown, hts⟩ (f_X10_see l G cI cJ cZ cB cQ _ h0 b) (cwV 1 hts (gV w_1363 w_1365 wp_84 w_11 w_1366) rfl rfl rfl ⟨rfl, hd_X10_see⟩ ⟨Nat.le_of_ble_eq_true rfl, Nat.le_of_ble_eq_true rfl⟩) (mV hK hZ hP hD [0] rfl rfl [.int 0] 0 10 rfl rfl) rfl rfl hl.1 rfl (lv_room (Nat.le_of_ble_eq_true rfl)) dX10_advance_52 ⟨Nat.le_of_ble_eq_true rfl, Nat.le_of_ble_eq_true rfl⟩) (fun r9 u10 H locs hw11 hP hD hS => ?_)
  try dsimp only at hw11
  have hP : va_P G vwCl [(h0, oX10 b 0 0 0 0 0 0 0 0 (-1) 0 0 0 0 0 0 0 0 0)] H := hP
  have hD : va_D A [(h0, oX10 b 0 0 0 0 0 0 0 0 (-1) 0 0 0 0 0 0 0 0 0)] := hD
  obtain rfl : r9 = (-1) := hw11
  refine lv_istore_n (lv' := [(1, .int (-1)), (0, .ref h0)]) hx hb dX10_advance_55 rfl hl (by decide) rfl (fun ls hl => ?_)
  refine lv_iload_n hx hb dX10_advance_56 rfl (lv_at hl 0 rfl) ?_
  refine lv_iconst (v := (-1)) hx hb dX10_advance_57 (by decide) ?_
  refine lv_icmp_ne (tgt := 69) hx hb dX10_advance_58 (by decide) (fun c12 => absurd (by decide) c12) (fun c12 => ?_)
  refine lv_aload_n hx hb dX10_advance_61 rfl (lv_at hl 1 rfl) ?_
  refine lv_iconst (v := 0) hx hb dX10_advance_62 (by decide) ?_
  refine va_put (D := G) (ci := 10) (v := .int 0) (ty := .int) (C := RX10) (T := TX10) (N := 46) hx hb hts iG_X10 tyX10 tyX10_ok nmX10 hown hK hP hD hS 0 rfl rfl 10 (by decide) (hts _ w_1202) (fun _ h9 => h9) rfl (by decide +kernel) rfl rfl (Nat.le_of_ble_eq_true rfl) dX10_advance_63 (fun H locs hP hD hS => ?_)
  have hP : va_P G vwCl [(h0, oX10 b 0 0 0 0 0 0 0 0 (-1) 0 0 0 0 0 0 0 0 0)] H := hP
  have hD : va_D A [(h0, oX10 b 0 0 0 0 0 0 0 0 (-1) 0 0 0 0 0 0 0 0 0)] := hD
  refine lv_goto (tgt := 239) hx hb dX10_advance_66 (by decide) ?_
  exact hret _ _ _ _ () hP hD hS dX10_advance_239 trivial
