theorem dX10_anew_0 : decode cX10_anew 0 = .ok (.aload_n 0, 1) := by decide +kernel
theorem dX10_anew_1 : decode cX10_anew 1 = .ok (.invokevirtual 114, 3) := by decide +kernel
theorem dX10_anew_4 : decode cX10_anew 4 = .ok (.ifCond .ne 6, 3) := by decide +kernel
theorem dX10_anew_7 : decode cX10_anew 7 = .ok (.bipush (-2), 2) := by decide +kernel
theorem dX10_anew_9 : decode cX10_anew 9 = .ok (.ireturn, 1) := by decide +kernel
theorem dX10_ask_0 : decode cX10_ask 0 = .ok (.aload_n 0, 1) := by decide +kernel
theorem dX10_ask_1 : decode cX10_ask 1 = .ok (.iload_n 1, 1) := by decide +kernel
theorem dX10_ask_2 : decode cX10_ask 2 = .ok (.iload_n 2, 1) := by decide +kernel
theorem dX10_ask_3 : decode cX10_ask 3 = .ok (.invokevirtual 435, 3) := by decide +kernel
theorem dX10_ask_6 : decode cX10_ask 6 = .ok (.istore_n 3, 1) := by decide +kernel
theorem dX10_ask_7 : decode cX10_ask 7 = .ok (.iload_n 3, 1) := by decide +kernel
theorem dX10_ask_8 : decode cX10_ask 8 = .ok (.ifCond .ge 7, 3) := by decide +kernel
theorem dX10_ask_11 : decode cX10_ask 11 = .ok (.iload_n 3, 1) := by decide +kernel
theorem dX10_ask_12 : decode cX10_ask 12 = .ok (.goto 13, 3) := by decide +kernel
theorem dX10_ask_25 : decode cX10_ask 25 = .ok (.ireturn, 1) := by decide +kernel
theorem dX10_at_0 : decode cX10_at 0 = .ok (.aload_n 0, 1) := by decide +kernel
theorem dX10_at_1 : decode cX10_at 1 = .ok (.iload_n 1, 1) := by decide +kernel
theorem dX10_at_2 : decode cX10_at 2 = .ok (.invokevirtual 356, 3) := by decide +kernel
theorem dX10_at_5 : decode cX10_at 5 = .ok (.ifCond .eq 24, 3) := by decide +kernel
theorem dX10_at_29 : decode cX10_at 29 = .ok (.bipush (-2), 2) := by decide +kernel
theorem dX10_at_31 : decode cX10_at 31 = .ok (.ireturn, 1) := by decide +kernel
theorem dX10_back_0 : decode cX10_back 0 = .ok (.iload_n 1, 1) := by decide +kernel
theorem dX10_back_1 : decode cX10_back 1 = .ok (.i2l, 1) := by decide +kernel
theorem dX10_back_2 : decode cX10_back 2 = .ok (.lconst 0, 1) := by decide +kernel
theorem dX10_back_3 : decode cX10_back 3 = .ok (.ldc2_w 104, 3) := by decide +kernel
theorem dX10_back_6 : decode cX10_back 6 = .ok (.invokestatic 106, 3) := by decide +kernel
theorem dX10_back_9 : decode cX10_back 9 = .ok (.ifCond .ne 6, 3) := by decide +kernel
theorem dX10_back_12 : decode cX10_back 12 = .ok (.bipush (-2), 2) := by decide +kernel
theorem dX10_back_14 : decode cX10_back 14 = .ok (.ireturn, 1) := by decide +kernel
theorem dX10_back_15 : decode cX10_back 15 = .ok (.aload_n 0, 1) := by decide +kernel
theorem dX10_back_16 : decode cX10_back 16 = .ok (.getfield 16, 3) := by decide +kernel
theorem dX10_back_19 : decode cX10_back 19 = .ok (.iload_n 1, 1) := by decide +kernel
theorem dX10_back_20 : decode cX10_back 20 = .ok (.baload, 1) := by decide +kernel
theorem dX10_back_21 : decode cX10_back 21 = .ok (.ifCond .ne 6, 3) := by decide +kernel
theorem dX10_back_24 : decode cX10_back 24 = .ok (.bipush (-6), 2) := by decide +kernel
theorem dX10_back_26 : decode cX10_back 26 = .ok (.ireturn, 1) := by decide +kernel
theorem dX10_beeline_0 : decode cX10_beeline 0 = .ok (.aload_n 0, 1) := by decide +kernel
theorem dX10_beeline_1 : decode cX10_beeline 1 = .ok (.iload_n 1, 1) := by decide +kernel
theorem dX10_beeline_2 : decode cX10_beeline 2 = .ok (.invokevirtual 353, 3) := by decide +kernel
theorem dX10_beeline_5 : decode cX10_beeline 5 = .ok (.ifCond .eq 21, 3) := by decide +kernel
theorem dX10_beeline_26 : decode cX10_beeline 26 = .ok (.bipush (-2), 2) := by decide +kernel
theorem dX10_beeline_28 : decode cX10_beeline 28 = .ok (.ireturn, 1) := by decide +kernel
theorem dX10_blame_0 : decode cX10_blame 0 = .ok (.aload_n 0, 1) := by decide +kernel
theorem dX10_blame_1 : decode cX10_blame 1 = .ok (.invokevirtual 335, 3) := by decide +kernel
theorem dX10_blame_4 : decode cX10_blame 4 = .ok (.ifCond .ne 6, 3) := by decide +kernel
theorem dX10_blame_7 : decode cX10_blame 7 = .ok (.bipush (-2), 2) := by decide +kernel
theorem dX10_blame_9 : decode cX10_blame 9 = .ok (.ireturn, 1) := by decide +kernel
theorem dX10_bridge_0 : decode cX10_bridge 0 = .ok (.aload_n 0, 1) := by decide +kernel
theorem dX10_bridge_1 : decode cX10_bridge 1 = .ok (.iload_n 1, 1) := by decide +kernel
theorem dX10_bridge_2 : decode cX10_bridge 2 = .ok (.i2l, 1) := by decide +kernel
theorem dX10_bridge_3 : decode cX10_bridge 3 = .ok (.invokevirtual 310, 3) := by decide +kernel
theorem dX10_bridge_6 : decode cX10_bridge 6 = .ok (.ifCond .eq 11, 3) := by decide +kernel
theorem dX10_bridge_17 : decode cX10_bridge 17 = .ok (.bipush (-2), 2) := by decide +kernel
theorem dX10_bridge_19 : decode cX10_bridge 19 = .ok (.ireturn, 1) := by decide +kernel
theorem dX10_bridges_0 : decode cX10_bridges 0 = .ok (.aload_n 0, 1) := by decide +kernel
theorem dX10_bridges_1 : decode cX10_bridges 1 = .ok (.iload_n 1, 1) := by decide +kernel
theorem dX10_bridges_2 : decode cX10_bridges 2 = .ok (.invokevirtual 373, 3) := by decide +kernel
theorem dX10_bridges_5 : decode cX10_bridges 5 = .ok (.ifCond .ne 6, 3) := by decide +kernel
theorem dX10_bridges_8 : decode cX10_bridges 8 = .ok (.bipush (-2), 2) := by decide +kernel
theorem dX10_bridges_10 : decode cX10_bridges 10 = .ok (.ireturn, 1) := by decide +kernel
theorem dX10_by_0 : decode cX10_by 0 = .ok (.aload_n 0, 1) := by decide +kernel
theorem dX10_by_1 : decode cX10_by 1 = .ok (.invokevirtual 335, 3) := by decide +kernel
theorem dX10_by_4 : decode cX10_by 4 = .ok (.ifCond .eq 23, 3) := by decide +kernel
theorem dX10_by_27 : decode cX10_by 27 = .ok (.bipush (-2), 2) := by decide +kernel
theorem dX10_by_29 : decode cX10_by 29 = .ok (.ireturn, 1) := by decide +kernel
theorem dX10_chance_0 : decode cX10_chance 0 = .ok (.aload_n 0, 1) := by decide +kernel
theorem dX10_chance_1 : decode cX10_chance 1 = .ok (.iload_n 1, 1) := by decide +kernel
theorem dX10_chance_2 : decode cX10_chance 2 = .ok (.i2l, 1) := by decide +kernel
theorem dX10_chance_3 : decode cX10_chance 3 = .ok (.invokevirtual 310, 3) := by decide +kernel
theorem dX10_chance_6 : decode cX10_chance 6 = .ok (.ifCond .eq 13, 3) := by decide +kernel
theorem dX10_chance_19 : decode cX10_chance 19 = .ok (.ldc2_w 496, 3) := by decide +kernel
theorem dX10_chance_22 : decode cX10_chance 22 = .ok (.lreturn, 1) := by decide +kernel
theorem dX10_colony_0 : decode cX10_colony 0 = .ok (.aload_n 0, 1) := by decide +kernel
theorem dX10_colony_1 : decode cX10_colony 1 = .ok (.aload_n 0, 1) := by decide +kernel
theorem dX10_colony_2 : decode cX10_colony 2 = .ok (.getfield 123, 3) := by decide +kernel
theorem dX10_colony_5 : decode cX10_colony 5 = .ok (.putfield 126, 3) := by decide +kernel
theorem dX10_colony_8 : decode cX10_colony 8 = .ok (.aload_n 0, 1) := by decide +kernel
theorem dX10_colony_9 : decode cX10_colony 9 = .ok (.iconst 0, 1) := by decide +kernel
theorem dX10_colony_10 : decode cX10_colony 10 = .ok (.putfield 123, 3) := by decide +kernel
theorem dX10_colony_13 : decode cX10_colony 13 = .ok (.aload_n 0, 1) := by decide +kernel
theorem dX10_colony_14 : decode cX10_colony 14 = .ok (.iconst 0, 1) := by decide +kernel
theorem dX10_colony_15 : decode cX10_colony 15 = .ok (.putfield 129, 3) := by decide +kernel
theorem dX10_colony_18 : decode cX10_colony 18 = .ok (.aload_n 0, 1) := by decide +kernel
theorem dX10_colony_19 : decode cX10_colony 19 = .ok (.iconst 0, 1) := by decide +kernel
theorem dX10_colony_20 : decode cX10_colony 20 = .ok (.putfield 160, 3) := by decide +kernel
theorem dX10_colony_23 : decode cX10_colony 23 = .ok (.aload_n 0, 1) := by decide +kernel
theorem dX10_colony_24 : decode cX10_colony 24 = .ok (.iconst (-1), 1) := by decide +kernel
theorem dX10_colony_25 : decode cX10_colony 25 = .ok (.putfield 27, 3) := by decide +kernel
theorem dX10_colony_28 : decode cX10_colony 28 = .ok (.iconst 0, 1) := by decide +kernel
theorem dX10_colony_29 : decode cX10_colony 29 = .ok (.istore_n 1, 1) := by decide +kernel
theorem dX10_colony_30 : decode cX10_colony 30 = .ok (.iload_n 1, 1) := by decide +kernel
theorem dX10_colony_31 : decode cX10_colony 31 = .ok (.sipush 149, 3) := by decide +kernel
theorem dX10_colony_34 : decode cX10_colony 34 = .ok (.if_icmp .ge 16, 3) := by decide +kernel
theorem dX10_colony_37 : decode cX10_colony 37 = .ok (.aload_n 0, 1) := by decide +kernel
theorem dX10_colony_38 : decode cX10_colony 38 = .ok (.getfield 31, 3) := by decide +kernel
theorem dX10_colony_41 : decode cX10_colony 41 = .ok (.iload_n 1, 1) := by decide +kernel
theorem dX10_colony_42 : decode cX10_colony 42 = .ok (.iconst 0, 1) := by decide +kernel
theorem dX10_colony_43 : decode cX10_colony 43 = .ok (.iastore, 1) := by decide +kernel
theorem dX10_colony_44 : decode cX10_colony 44 = .ok (.iinc 1 1, 3) := by decide +kernel
theorem dX10_colony_47 : decode cX10_colony 47 = .ok (.goto (-17), 3) := by decide +kernel
theorem dX10_colony_50 : decode cX10_colony 50 = .ok (.aload_n 0, 1) := by decide +kernel
theorem dX10_colony_51 : decode cX10_colony 51 = .ok (.invokevirtual 179, 3) := by decide +kernel
theorem dX10_colony_54 : decode cX10_colony 54 = .ok (.aload_n 0, 1) := by decide +kernel
theorem dX10_colony_55 : decode cX10_colony 55 = .ok (.invokevirtual 163, 3) := by decide +kernel
theorem dX10_colony_58 : decode cX10_colony 58 = .ok (.ifCond .eq 17, 3) := by decide +kernel
theorem dX10_colony_61 : decode cX10_colony 61 = .ok (.aload_n 0, 1) := by decide +kernel
theorem dX10_colony_62 : decode cX10_colony 62 = .ok (.getfield 139, 3) := by decide +kernel
theorem dX10_colony_65 : decode cX10_colony 65 = .ok (.ifCond .eq 10, 3) := by decide +kernel
theorem dX10_colony_75 : decode cX10_colony 75 = .ok (.aload_n 0, 1) := by decide +kernel
theorem dX10_colony_76 : decode cX10_colony 76 = .ok (.invokevirtual 163, 3) := by decide +kernel
theorem dX10_colony_79 : decode cX10_colony 79 = .ok (.ifCond .ne 6, 3) := by decide +kernel
theorem dX10_colony_85 : decode cX10_colony 85 = .ok (.iconst 0, 1) := by decide +kernel
theorem dX10_colony_86 : decode cX10_colony 86 = .ok (.istore_n 1, 1) := by decide +kernel
theorem dX10_colony_87 : decode cX10_colony 87 = .ok (.iload_n 1, 1) := by decide +kernel
theorem dX10_colony_88 : decode cX10_colony 88 = .ok (.sipush 149, 3) := by decide +kernel
theorem dX10_colony_91 : decode cX10_colony 91 = .ok (.if_icmp .ge 21, 3) := by decide +kernel
theorem dX10_colony_94 : decode cX10_colony 94 = .ok (.aload_n 0, 1) := by decide +kernel
theorem dX10_colony_95 : decode cX10_colony 95 = .ok (.getfield 9, 3) := by decide +kernel
theorem dX10_colony_98 : decode cX10_colony 98 = .ok (.iload_n 1, 1) := by decide +kernel
theorem dX10_colony_99 : decode cX10_colony 99 = .ok (.aload_n 0, 1) := by decide +kernel
theorem dX10_colony_100 : decode cX10_colony 100 = .ok (.getfield 31, 3) := by decide +kernel
theorem dX10_colony_103 : decode cX10_colony 103 = .ok (.iload_n 1, 1) := by decide +kernel
theorem dX10_colony_104 : decode cX10_colony 104 = .ok (.iaload, 1) := by decide +kernel
theorem dX10_colony_105 : decode cX10_colony 105 = .ok (.iastore, 1) := by decide +kernel
theorem dX10_colony_106 : decode cX10_colony 106 = .ok (.iinc 1 1, 3) := by decide +kernel
theorem dX10_colony_109 : decode cX10_colony 109 = .ok (.goto (-22), 3) := by decide +kernel
theorem dX10_colony_112 : decode cX10_colony 112 = .ok (.aload_n 0, 1) := by decide +kernel
theorem dX10_colony_113 : decode cX10_colony 113 = .ok (.getfield 9, 3) := by decide +kernel
theorem dX10_colony_116 : decode cX10_colony 116 = .ok (.bipush 9, 2) := by decide +kernel
theorem dX10_colony_118 : decode cX10_colony 118 = .ok (.iaload, 1) := by decide +kernel
theorem dX10_colony_119 : decode cX10_colony 119 = .ok (.ireturn, 1) := by decide +kernel
theorem dX10_corners_0 : decode cX10_corners 0 = .ok (.aload_n 0, 1) := by decide +kernel
theorem dX10_corners_1 : decode cX10_corners 1 = .ok (.iload_n 2, 1) := by decide +kernel
theorem dX10_corners_2 : decode cX10_corners 2 = .ok (.invokevirtual 373, 3) := by decide +kernel
theorem dX10_corners_5 : decode cX10_corners 5 = .ok (.ifCond .eq 15, 3) := by decide +kernel
theorem dX10_corners_20 : decode cX10_corners 20 = .ok (.bipush (-2), 2) := by decide +kernel
theorem dX10_corners_22 : decode cX10_corners 22 = .ok (.ireturn, 1) := by decide +kernel
theorem dX10_count_0 : decode cX10_count 0 = .ok (.iload_n 1, 1) := by decide +kernel
theorem dX10_count_1 : decode cX10_count 1 = .ok (.i2l, 1) := by decide +kernel
theorem dX10_count_2 : decode cX10_count 2 = .ok (.lconst 0, 1) := by decide +kernel
theorem dX10_count_3 : decode cX10_count 3 = .ok (.ldc2_w 523, 3) := by decide +kernel
theorem dX10_count_6 : decode cX10_count 6 = .ok (.invokestatic 106, 3) := by decide +kernel
theorem dX10_count_9 : decode cX10_count 9 = .ok (.ifCond .eq 10, 3) := by decide +kernel
theorem dX10_count_12 : decode cX10_count 12 = .ok (.aload_n 0, 1) := by decide +kernel
theorem dX10_count_13 : decode cX10_count 13 = .ok (.getfield 9, 3) := by decide +kernel
theorem dX10_count_16 : decode cX10_count 16 = .ok (.iload_n 1, 1) := by decide +kernel
theorem dX10_count_17 : decode cX10_count 17 = .ok (.iaload, 1) := by decide +kernel
theorem dX10_count_18 : decode cX10_count 18 = .ok (.ireturn, 1) := by decide +kernel
theorem dX10_count_19 : decode cX10_count 19 = .ok (.iload_n 1, 1) := by decide +kernel
theorem dX10_count_20 : decode cX10_count 20 = .ok (.bipush 10, 2) := by decide +kernel
theorem dX10_count_22 : decode cX10_count 22 = .ok (.if_icmp .ne 8, 3) := by decide +kernel
theorem dX10_count_25 : decode cX10_count 25 = .ok (.aload_n 0, 1) := by decide +kernel
theorem dX10_count_26 : decode cX10_count 26 = .ok (.getfield 123, 3) := by decide +kernel
theorem dX10_count_29 : decode cX10_count 29 = .ok (.ireturn, 1) := by decide +kernel
theorem dX10_count_30 : decode cX10_count 30 = .ok (.iload_n 1, 1) := by decide +kernel
theorem dX10_count_31 : decode cX10_count 31 = .ok (.bipush 11, 2) := by decide +kernel
theorem dX10_count_33 : decode cX10_count 33 = .ok (.if_icmp .eq 5, 3) := by decide +kernel
theorem dX10_count_36 : decode cX10_count 36 = .ok (.iconst (-1), 1) := by decide +kernel
theorem dX10_count_37 : decode cX10_count 37 = .ok (.ireturn, 1) := by decide +kernel
theorem dX10_count_38 : decode cX10_count 38 = .ok (.iconst 0, 1) := by decide +kernel
theorem dX10_count_39 : decode cX10_count 39 = .ok (.istore_n 2, 1) := by decide +kernel
theorem dX10_count_40 : decode cX10_count 40 = .ok (.iconst 0, 1) := by decide +kernel
theorem dX10_count_41 : decode cX10_count 41 = .ok (.istore_n 3, 1) := by decide +kernel
theorem dX10_count_42 : decode cX10_count 42 = .ok (.iload_n 3, 1) := by decide +kernel
theorem dX10_count_43 : decode cX10_count 43 = .ok (.iconst 4, 1) := by decide +kernel
theorem dX10_count_44 : decode cX10_count 44 = .ok (.if_icmp .ge 27, 3) := by decide +kernel
theorem dX10_count_47 : decode cX10_count 47 = .ok (.iload_n 2, 1) := by decide +kernel
theorem dX10_count_48 : decode cX10_count 48 = .ok (.aload_n 0, 1) := by decide +kernel
theorem dX10_count_49 : decode cX10_count 49 = .ok (.getfield 88, 3) := by decide +kernel
theorem dX10_count_52 : decode cX10_count 52 = .ok (.iload_n 3, 1) := by decide +kernel
theorem dX10_count_53 : decode cX10_count 53 = .ok (.iaload, 1) := by decide +kernel
theorem dX10_count_54 : decode cX10_count 54 = .ok (.iconst (-1), 1) := by decide +kernel
theorem dX10_count_55 : decode cX10_count 55 = .ok (.if_icmp .ne 7, 3) := by decide +kernel
theorem dX10_count_58 : decode cX10_count 58 = .ok (.iconst 0, 1) := by decide +kernel
theorem dX10_count_59 : decode cX10_count 59 = .ok (.goto 4, 3) := by decide +kernel
theorem dX10_count_63 : decode cX10_count 63 = .ok (.iadd, 1) := by decide +kernel
theorem dX10_count_64 : decode cX10_count 64 = .ok (.istore_n 2, 1) := by decide +kernel
theorem dX10_count_65 : decode cX10_count 65 = .ok (.iinc 3 1, 3) := by decide +kernel
theorem dX10_count_68 : decode cX10_count 68 = .ok (.goto (-26), 3) := by decide +kernel
theorem dX10_count_71 : decode cX10_count 71 = .ok (.iload_n 2, 1) := by decide +kernel
theorem dX10_count_72 : decode cX10_count 72 = .ok (.ireturn, 1) := by decide +kernel
theorem dX10_cover_0 : decode cX10_cover 0 = .ok (.aload_n 0, 1) := by decide +kernel
theorem dX10_cover_1 : decode cX10_cover 1 = .ok (.invokevirtual 335, 3) := by decide +kernel
theorem dX10_cover_4 : decode cX10_cover 4 = .ok (.ifCond .eq 13, 3) := by decide +kernel
theorem dX10_cover_17 : decode cX10_cover 17 = .ok (.bipush (-2), 2) := by decide +kernel
theorem dX10_cover_19 : decode cX10_cover 19 = .ok (.ireturn, 1) := by decide +kernel
theorem dX10_covers_0 : decode cX10_covers 0 = .ok (.aload_n 0, 1) := by decide +kernel
theorem dX10_covers_1 : decode cX10_covers 1 = .ok (.invokevirtual 335, 3) := by decide +kernel
theorem dX10_covers_4 : decode cX10_covers 4 = .ok (.ifCond .eq 10, 3) := by decide +kernel
theorem dX10_covers_14 : decode cX10_covers 14 = .ok (.bipush (-2), 2) := by decide +kernel
theorem dX10_covers_16 : decode cX10_covers 16 = .ok (.ireturn, 1) := by decide +kernel
theorem dX10_creek_0 : decode cX10_creek 0 = .ok (.aload_n 0, 1) := by decide +kernel
theorem dX10_creek_1 : decode cX10_creek 1 = .ok (.iload_n 1, 1) := by decide +kernel
theorem dX10_creek_2 : decode cX10_creek 2 = .ok (.invokevirtual 353, 3) := by decide +kernel
theorem dX10_creek_5 : decode cX10_creek 5 = .ok (.ifCond .ne 6, 3) := by decide +kernel
theorem dX10_creek_8 : decode cX10_creek 8 = .ok (.bipush (-2), 2) := by decide +kernel
theorem dX10_creek_10 : decode cX10_creek 10 = .ok (.ireturn, 1) := by decide +kernel
theorem dX10_crossing_0 : decode cX10_crossing 0 = .ok (.aload_n 0, 1) := by decide +kernel
theorem dX10_crossing_1 : decode cX10_crossing 1 = .ok (.invokevirtual 335, 3) := by decide +kernel
theorem dX10_crossing_4 : decode cX10_crossing 4 = .ok (.ifCond .ne 6, 3) := by decide +kernel
theorem dX10_crossing_7 : decode cX10_crossing 7 = .ok (.bipush (-2), 2) := by decide +kernel
theorem dX10_crossing_9 : decode cX10_crossing 9 = .ok (.ireturn, 1) := by decide +kernel
theorem dX10_drawn_0 : decode cX10_drawn 0 = .ok (.aload_n 0, 1) := by decide +kernel
theorem dX10_drawn_1 : decode cX10_drawn 1 = .ok (.invokevirtual 114, 3) := by decide +kernel
theorem dX10_drawn_4 : decode cX10_drawn 4 = .ok (.ifCond .eq 20, 3) := by decide +kernel
theorem dX10_drawn_24 : decode cX10_drawn 24 = .ok (.bipush (-2), 2) := by decide +kernel
theorem dX10_drawn_26 : decode cX10_drawn 26 = .ok (.ireturn, 1) := by decide +kernel
theorem dX10_end_0 : decode cX10_end 0 = .ok (.iload_n 1, 1) := by decide +kernel
theorem dX10_end_1 : decode cX10_end 1 = .ok (.i2l, 1) := by decide +kernel
theorem dX10_end_2 : decode cX10_end 2 = .ok (.lconst 0, 1) := by decide +kernel
theorem dX10_end_3 : decode cX10_end 3 = .ok (.aload_n 0, 1) := by decide +kernel
theorem dX10_end_4 : decode cX10_end 4 = .ok (.getfield 123, 3) := by decide +kernel
theorem dX10_end_7 : decode cX10_end 7 = .ok (.i2l, 1) := by decide +kernel
theorem dX10_end_8 : decode cX10_end 8 = .ok (.invokestatic 106, 3) := by decide +kernel
theorem dX10_end_11 : decode cX10_end 11 = .ok (.ifCond .ne 5, 3) := by decide +kernel
theorem dX10_end_14 : decode cX10_end 14 = .ok (.iconst (-1), 1) := by decide +kernel
theorem dX10_end_15 : decode cX10_end 15 = .ok (.ireturn, 1) := by decide +kernel
theorem dX10_end_16 : decode cX10_end 16 = .ok (.aload_n 0, 1) := by decide +kernel
theorem dX10_end_17 : decode cX10_end 17 = .ok (.iload_n 1, 1) := by decide +kernel
theorem dX10_end_18 : decode cX10_end 18 = .ok (.putfield 123, 3) := by decide +kernel
theorem dX10_end_21 : decode cX10_end 21 = .ok (.iload_n 1, 1) := by decide +kernel
theorem dX10_end_22 : decode cX10_end 22 = .ok (.ireturn, 1) := by decide +kernel
theorem dX10_evening_0 : decode cX10_evening 0 = .ok (.aload_n 0, 1) := by decide +kernel
theorem dX10_evening_1 : decode cX10_evening 1 = .ok (.iload_n 1, 1) := by decide +kernel
theorem dX10_evening_2 : decode cX10_evening 2 = .ok (.invokevirtual 373, 3) := by decide +kernel
theorem dX10_evening_5 : decode cX10_evening 5 = .ok (.ifCond .eq 11, 3) := by decide +kernel
theorem dX10_evening_16 : decode cX10_evening 16 = .ok (.bipush (-2), 2) := by decide +kernel
theorem dX10_evening_18 : decode cX10_evening 18 = .ok (.ireturn, 1) := by decide +kernel
theorem dX10_faced_0 : decode cX10_faced 0 = .ok (.aload_n 0, 1) := by decide +kernel
theorem dX10_faced_1 : decode cX10_faced 1 = .ok (.iload_n 1, 1) := by decide +kernel
theorem dX10_faced_2 : decode cX10_faced 2 = .ok (.iload_n 2, 1) := by decide +kernel
theorem dX10_faced_3 : decode cX10_faced 3 = .ok (.invokevirtual 435, 3) := by decide +kernel
theorem dX10_faced_6 : decode cX10_faced 6 = .ok (.istore_n 3, 1) := by decide +kernel
theorem dX10_faced_7 : decode cX10_faced 7 = .ok (.iload_n 3, 1) := by decide +kernel
theorem dX10_faced_8 : decode cX10_faced 8 = .ok (.ifCond .ge 7, 3) := by decide +kernel
theorem dX10_faced_11 : decode cX10_faced 11 = .ok (.iload_n 3, 1) := by decide +kernel
theorem dX10_faced_12 : decode cX10_faced 12 = .ok (.goto 9, 3) := by decide +kernel
theorem dX10_faced_21 : decode cX10_faced 21 = .ok (.ireturn, 1) := by decide +kernel
theorem dX10_farthest_0 : decode cX10_farthest 0 = .ok (.aload_n 0, 1) := by decide +kernel
theorem dX10_farthest_1 : decode cX10_farthest 1 = .ok (.iload_n 2, 1) := by decide +kernel
theorem dX10_farthest_2 : decode cX10_farthest 2 = .ok (.invokevirtual 373, 3) := by decide +kernel
theorem dX10_farthest_5 : decode cX10_farthest 5 = .ok (.ifCond .eq 12, 3) := by decide +kernel
theorem dX10_farthest_17 : decode cX10_farthest 17 = .ok (.bipush (-2), 2) := by decide +kernel
theorem dX10_farthest_19 : decode cX10_farthest 19 = .ok (.ireturn, 1) := by decide +kernel
theorem dX10_fault_0 : decode cX10_fault 0 = .ok (.iload_n 1, 1) := by decide +kernel
theorem dX10_fault_1 : decode cX10_fault 1 = .ok (.ifCond .ne 10, 3) := by decide +kernel
theorem dX10_fault_4 : decode cX10_fault 4 = .ok (.aload_n 0, 1) := by decide +kernel
theorem dX10_fault_5 : decode cX10_fault 5 = .ok (.getfield 160, 3) := by decide +kernel
theorem dX10_fault_8 : decode cX10_fault 8 = .ok (.goto 16, 3) := by decide +kernel
theorem dX10_fault_11 : decode cX10_fault 11 = .ok (.iload_n 1, 1) := by decide +kernel
theorem dX10_fault_12 : decode cX10_fault 12 = .ok (.iconst 1, 1) := by decide +kernel
theorem dX10_fault_13 : decode cX10_fault 13 = .ok (.if_icmp .ne 10, 3) := by decide +kernel
theorem dX10_fault_16 : decode cX10_fault 16 = .ok (.aload_n 0, 1) := by decide +kernel
theorem dX10_fault_17 : decode cX10_fault 17 = .ok (.getfield 27, 3) := by decide +kernel
theorem dX10_fault_20 : decode cX10_fault 20 = .ok (.goto 4, 3) := by decide +kernel
theorem dX10_fault_23 : decode cX10_fault 23 = .ok (.iconst (-1), 1) := by decide +kernel
theorem dX10_fault_24 : decode cX10_fault 24 = .ok (.ireturn, 1) := by decide +kernel
theorem dX10_feed_0 : decode cX10_feed 0 = .ok (.aload_n 0, 1) := by decide +kernel
theorem dX10_feed_1 : decode cX10_feed 1 = .ok (.getfield 123, 3) := by decide +kernel
theorem dX10_feed_4 : decode cX10_feed 4 = .ok (.bipush 20, 2) := by decide +kernel
theorem dX10_feed_6 : decode cX10_feed 6 = .ok (.iadd, 1) := by decide +kernel
theorem dX10_feed_7 : decode cX10_feed 7 = .ok (.sipush 900, 3) := by decide +kernel
theorem dX10_feed_10 : decode cX10_feed 10 = .ok (.if_icmp .le 5, 3) := by decide +kernel
theorem dX10_feed_15 : decode cX10_feed 15 = .ok (.aload_n 0, 1) := by decide +kernel
theorem dX10_feed_16 : decode cX10_feed 16 = .ok (.getfield 24, 3) := by decide +kernel
theorem dX10_feed_19 : decode cX10_feed 19 = .ok (.iconst 0, 1) := by decide +kernel
theorem dX10_feed_20 : decode cX10_feed 20 = .ok (.iload_n 1, 1) := by decide +kernel
theorem dX10_feed_21 : decode cX10_feed 21 = .ok (.iastore, 1) := by decide +kernel
theorem dX10_feed_22 : decode cX10_feed 22 = .ok (.aload_n 0, 1) := by decide +kernel
theorem dX10_feed_23 : decode cX10_feed 23 = .ok (.getfield 24, 3) := by decide +kernel
theorem dX10_feed_26 : decode cX10_feed 26 = .ok (.iconst 1, 1) := by decide +kernel
theorem dX10_feed_27 : decode cX10_feed 27 = .ok (.iload_n 2, 1) := by decide +kernel
theorem dX10_feed_28 : decode cX10_feed 28 = .ok (.iastore, 1) := by decide +kernel
theorem dX10_feed_29 : decode cX10_feed 29 = .ok (.aload_n 0, 1) := by decide +kernel
theorem dX10_feed_30 : decode cX10_feed 30 = .ok (.getfield 24, 3) := by decide +kernel
theorem dX10_feed_33 : decode cX10_feed 33 = .ok (.iconst 2, 1) := by decide +kernel
theorem dX10_feed_34 : decode cX10_feed 34 = .ok (.iload_n 3, 1) := by decide +kernel
theorem dX10_feed_35 : decode cX10_feed 35 = .ok (.iastore, 1) := by decide +kernel
theorem dX10_feed_36 : decode cX10_feed 36 = .ok (.aload_n 0, 1) := by decide +kernel
theorem dX10_feed_37 : decode cX10_feed 37 = .ok (.getfield 24, 3) := by decide +kernel
theorem dX10_feed_40 : decode cX10_feed 40 = .ok (.iconst 3, 1) := by decide +kernel
theorem dX10_feed_41 : decode cX10_feed 41 = .ok (.iload 4, 2) := by decide +kernel
theorem dX10_feed_43 : decode cX10_feed 43 = .ok (.iastore, 1) := by decide +kernel
theorem dX10_feed_44 : decode cX10_feed 44 = .ok (.aload_n 0, 1) := by decide +kernel
theorem dX10_feed_45 : decode cX10_feed 45 = .ok (.getfield 24, 3) := by decide +kernel
theorem dX10_feed_48 : decode cX10_feed 48 = .ok (.iconst 4, 1) := by decide +kernel
theorem dX10_feed_49 : decode cX10_feed 49 = .ok (.iload 5, 2) := by decide +kernel
theorem dX10_feed_51 : decode cX10_feed 51 = .ok (.iastore, 1) := by decide +kernel
theorem dX10_feed_52 : decode cX10_feed 52 = .ok (.iconst 0, 1) := by decide +kernel
theorem dX10_feed_53 : decode cX10_feed 53 = .ok (.istore 6, 2) := by decide +kernel
theorem dX10_feed_55 : decode cX10_feed 55 = .ok (.iload 6, 2) := by decide +kernel
theorem dX10_feed_57 : decode cX10_feed 57 = .ok (.bipush 20, 2) := by decide +kernel
theorem dX10_feed_59 : decode cX10_feed 59 = .ok (.if_icmp .ge 42, 3) := by decide +kernel
theorem dX10_feed_62 : decode cX10_feed 62 = .ok (.aload_n 0, 1) := by decide +kernel
theorem dX10_feed_63 : decode cX10_feed 63 = .ok (.getfield 20, 3) := by decide +kernel
theorem dX10_feed_66 : decode cX10_feed 66 = .ok (.aload_n 0, 1) := by decide +kernel
theorem dX10_feed_67 : decode cX10_feed 67 = .ok (.getfield 123, 3) := by decide +kernel
theorem dX10_feed_70 : decode cX10_feed 70 = .ok (.iload 6, 2) := by decide +kernel
theorem dX10_feed_72 : decode cX10_feed 72 = .ok (.iadd, 1) := by decide +kernel
theorem dX10_feed_73 : decode cX10_feed 73 = .ok (.aload_n 0, 1) := by decide +kernel
theorem dX10_feed_74 : decode cX10_feed 74 = .ok (.getfield 24, 3) := by decide +kernel
theorem dX10_feed_77 : decode cX10_feed 77 = .ok (.iload 6, 2) := by decide +kernel
theorem dX10_feed_79 : decode cX10_feed 79 = .ok (.iconst 4, 1) := by decide +kernel
theorem dX10_feed_80 : decode cX10_feed 80 = .ok (.idiv, 1) := by decide +kernel
theorem dX10_feed_81 : decode cX10_feed 81 = .ok (.iaload, 1) := by decide +kernel
theorem dX10_feed_82 : decode cX10_feed 82 = .ok (.bipush 24, 2) := by decide +kernel
theorem dX10_feed_84 : decode cX10_feed 84 = .ok (.bipush 8, 2) := by decide +kernel
theorem dX10_feed_86 : decode cX10_feed 86 = .ok (.iload 6, 2) := by decide +kernel
theorem dX10_feed_88 : decode cX10_feed 88 = .ok (.iconst 4, 1) := by decide +kernel
theorem dX10_feed_89 : decode cX10_feed 89 = .ok (.irem, 1) := by decide +kernel
theorem dX10_feed_90 : decode cX10_feed 90 = .ok (.imul, 1) := by decide +kernel
theorem dX10_feed_91 : decode cX10_feed 91 = .ok (.isub, 1) := by decide +kernel
theorem dX10_feed_92 : decode cX10_feed 92 = .ok (.ishr, 1) := by decide +kernel
theorem dX10_feed_93 : decode cX10_feed 93 = .ok (.i2b, 1) := by decide +kernel
theorem dX10_feed_94 : decode cX10_feed 94 = .ok (.bastore, 1) := by decide +kernel
theorem dX10_feed_95 : decode cX10_feed 95 = .ok (.iinc 6 1, 3) := by decide +kernel
theorem dX10_feed_98 : decode cX10_feed 98 = .ok (.goto (-43), 3) := by decide +kernel
theorem dX10_feed_101 : decode cX10_feed 101 = .ok (.aload_n 0, 1) := by decide +kernel
theorem dX10_feed_102 : decode cX10_feed 102 = .ok (.dup, 1) := by decide +kernel
theorem dX10_feed_103 : decode cX10_feed 103 = .ok (.getfield 123, 3) := by decide +kernel
theorem dX10_feed_106 : decode cX10_feed 106 = .ok (.bipush 20, 2) := by decide +kernel
theorem dX10_feed_108 : decode cX10_feed 108 = .ok (.iadd, 1) := by decide +kernel
theorem dX10_feed_109 : decode cX10_feed 109 = .ok (.putfield 123, 3) := by decide +kernel
theorem dX10_feed_112 : decode cX10_feed 112 = .ok (.aload_n 0, 1) := by decide +kernel
theorem dX10_feed_113 : decode cX10_feed 113 = .ok (.getfield 123, 3) := by decide +kernel
theorem dX10_feed_116 : decode cX10_feed 116 = .ok (.ireturn, 1) := by decide +kernel
theorem dX10_first_0 : decode cX10_first 0 = .ok (.aload_n 0, 1) := by decide +kernel
theorem dX10_first_1 : decode cX10_first 1 = .ok (.iload_n 1, 1) := by decide +kernel
theorem dX10_first_2 : decode cX10_first 2 = .ok (.invokevirtual 353, 3) := by decide +kernel
theorem dX10_first_5 : decode cX10_first 5 = .ok (.ifCond .ne 6, 3) := by decide +kernel
theorem dX10_first_8 : decode cX10_first 8 = .ok (.bipush (-2), 2) := by decide +kernel
theorem dX10_first_10 : decode cX10_first 10 = .ok (.ireturn, 1) := by decide +kernel
theorem dX10_ford_0 : decode cX10_ford 0 = .ok (.aload_n 0, 1) := by decide +kernel
theorem dX10_ford_1 : decode cX10_ford 1 = .ok (.invokevirtual 335, 3) := by decide +kernel
theorem dX10_ford_4 : decode cX10_ford 4 = .ok (.ifCond .ne 6, 3) := by decide +kernel
theorem dX10_ford_7 : decode cX10_ford 7 = .ok (.bipush (-2), 2) := by decide +kernel
theorem dX10_ford_9 : decode cX10_ford 9 = .ok (.ireturn, 1) := by decide +kernel
theorem dX10_gets_0 : decode cX10_gets 0 = .ok (.aload_n 0, 1) := by decide +kernel
theorem dX10_gets_1 : decode cX10_gets 1 = .ok (.iload_n 1, 1) := by decide +kernel
theorem dX10_gets_2 : decode cX10_gets 2 = .ok (.iload_n 2, 1) := by decide +kernel
theorem dX10_gets_3 : decode cX10_gets 3 = .ok (.invokevirtual 479, 3) := by decide +kernel
theorem dX10_gets_6 : decode cX10_gets 6 = .ok (.ifCond .eq 37, 3) := by decide +kernel
theorem dX10_gets_43 : decode cX10_gets 43 = .ok (.sipush (-1000), 3) := by decide +kernel
theorem dX10_gets_46 : decode cX10_gets 46 = .ok (.ireturn, 1) := by decide +kernel
theorem dX10_grief_0 : decode cX10_grief 0 = .ok (.aload_n 0, 1) := by decide +kernel
theorem dX10_grief_1 : decode cX10_grief 1 = .ok (.iload_n 1, 1) := by decide +kernel
theorem dX10_grief_2 : decode cX10_grief 2 = .ok (.i2l, 1) := by decide +kernel
theorem dX10_grief_3 : decode cX10_grief 3 = .ok (.invokevirtual 261, 3) := by decide +kernel
theorem dX10_grief_6 : decode cX10_grief 6 = .ok (.ifCond .eq 7, 3) := by decide +kernel
theorem dX10_grief_13 : decode cX10_grief 13 = .ok (.bipush (-2), 2) := by decide +kernel
theorem dX10_grief_15 : decode cX10_grief 15 = .ok (.ireturn, 1) := by decide +kernel
theorem dX10_griefs_0 : decode cX10_griefs 0 = .ok (.aload_n 0, 1) := by decide +kernel
theorem dX10_griefs_1 : decode cX10_griefs 1 = .ok (.iload_n 1, 1) := by decide +kernel
theorem dX10_griefs_2 : decode cX10_griefs 2 = .ok (.iload_n 2, 1) := by decide +kernel
theorem dX10_griefs_3 : decode cX10_griefs 3 = .ok (.invokevirtual 435, 3) := by decide +kernel
theorem dX10_griefs_6 : decode cX10_griefs 6 = .ok (.istore_n 3, 1) := by decide +kernel
theorem dX10_griefs_7 : decode cX10_griefs 7 = .ok (.iload_n 3, 1) := by decide +kernel
theorem dX10_griefs_8 : decode cX10_griefs 8 = .ok (.ifCond .ge 5, 3) := by decide +kernel
theorem dX10_griefs_11 : decode cX10_griefs 11 = .ok (.iload_n 3, 1) := by decide +kernel
theorem dX10_griefs_12 : decode cX10_griefs 12 = .ok (.ireturn, 1) := by decide +kernel
theorem dX10_ground_0 : decode cX10_ground 0 = .ok (.aload_n 0, 1) := by decide +kernel
theorem dX10_ground_1 : decode cX10_ground 1 = .ok (.iload_n 1, 1) := by decide +kernel
theorem dX10_ground_2 : decode cX10_ground 2 = .ok (.invokevirtual 356, 3) := by decide +kernel
theorem dX10_ground_5 : decode cX10_ground 5 = .ok (.ifCond .ne 6, 3) := by decide +kernel
theorem dX10_ground_8 : decode cX10_ground 8 = .ok (.bipush (-2), 2) := by decide +kernel
theorem dX10_ground_10 : decode cX10_ground 10 = .ok (.ireturn, 1) := by decide +kernel
theorem dX10_haunt_0 : decode cX10_haunt 0 = .ok (.aload_n 0, 1) := by decide +kernel
theorem dX10_haunt_1 : decode cX10_haunt 1 = .ok (.iload_n 1, 1) := by decide +kernel
theorem dX10_haunt_2 : decode cX10_haunt 2 = .ok (.invokevirtual 356, 3) := by decide +kernel
theorem dX10_haunt_5 : decode cX10_haunt 5 = .ok (.ifCond .ne 6, 3) := by decide +kernel
theorem dX10_haunt_8 : decode cX10_haunt 8 = .ok (.bipush (-2), 2) := by decide +kernel
theorem dX10_haunt_10 : decode cX10_haunt 10 = .ok (.ireturn, 1) := by decide +kernel
theorem dX10_house_0 : decode cX10_house 0 = .ok (.aload_n 0, 1) := by decide +kernel
theorem dX10_house_1 : decode cX10_house 1 = .ok (.iload_n 2, 1) := by decide +kernel
theorem dX10_house_2 : decode cX10_house 2 = .ok (.invokevirtual 373, 3) := by decide +kernel
theorem dX10_house_5 : decode cX10_house 5 = .ok (.ifCond .eq 25, 3) := by decide +kernel
theorem dX10_house_30 : decode cX10_house 30 = .ok (.bipush (-2), 2) := by decide +kernel
theorem dX10_house_32 : decode cX10_house 32 = .ok (.ireturn, 1) := by decide +kernel
theorem dX10_image_0 : decode cX10_image 0 = .ok (.iload_n 1, 1) := by decide +kernel
theorem dX10_image_1 : decode cX10_image 1 = .ok (.i2l, 1) := by decide +kernel
theorem dX10_image_2 : decode cX10_image 2 = .ok (.lconst 0, 1) := by decide +kernel
theorem dX10_image_3 : decode cX10_image 3 = .ok (.ldc2_w 104, 3) := by decide +kernel
theorem dX10_image_6 : decode cX10_image 6 = .ok (.invokestatic 106, 3) := by decide +kernel
theorem dX10_image_9 : decode cX10_image 9 = .ok (.ifCond .ne 6, 3) := by decide +kernel
theorem dX10_image_12 : decode cX10_image 12 = .ok (.bipush (-2), 2) := by decide +kernel
theorem dX10_image_14 : decode cX10_image 14 = .ok (.ireturn, 1) := by decide +kernel
theorem dX10_image_15 : decode cX10_image 15 = .ok (.iconst 0, 1) := by decide +kernel
theorem dX10_image_16 : decode cX10_image 16 = .ok (.istore_n 2, 1) := by decide +kernel
theorem dX10_image_17 : decode cX10_image 17 = .ok (.iload_n 2, 1) := by decide +kernel
theorem dX10_image_18 : decode cX10_image 18 = .ok (.sipush 149, 3) := by decide +kernel
theorem dX10_image_21 : decode cX10_image 21 = .ok (.if_icmp .ge 27, 3) := by decide +kernel
theorem dX10_image_24 : decode cX10_image 24 = .ok (.aload_n 0, 1) := by decide +kernel
theorem dX10_image_25 : decode cX10_image 25 = .ok (.getfield 13, 3) := by decide +kernel
theorem dX10_image_28 : decode cX10_image 28 = .ok (.sipush 149, 3) := by decide +kernel
theorem dX10_image_31 : decode cX10_image 31 = .ok (.iload_n 1, 1) := by decide +kernel
theorem dX10_image_32 : decode cX10_image 32 = .ok (.imul, 1) := by decide +kernel
theorem dX10_image_33 : decode cX10_image 33 = .ok (.iload_n 2, 1) := by decide +kernel
theorem dX10_image_34 : decode cX10_image 34 = .ok (.iadd, 1) := by decide +kernel
theorem dX10_image_35 : decode cX10_image 35 = .ok (.aload_n 0, 1) := by decide +kernel
theorem dX10_image_36 : decode cX10_image 36 = .ok (.getfield 9, 3) := by decide +kernel
theorem dX10_image_39 : decode cX10_image 39 = .ok (.iload_n 2, 1) := by decide +kernel
theorem dX10_image_40 : decode cX10_image 40 = .ok (.iaload, 1) := by decide +kernel
theorem dX10_image_41 : decode cX10_image 41 = .ok (.iastore, 1) := by decide +kernel
theorem dX10_image_42 : decode cX10_image 42 = .ok (.iinc 2 1, 3) := by decide +kernel
theorem dX10_image_45 : decode cX10_image 45 = .ok (.goto (-28), 3) := by decide +kernel
theorem dX10_image_48 : decode cX10_image 48 = .ok (.aload_n 0, 1) := by decide +kernel
theorem dX10_image_49 : decode cX10_image 49 = .ok (.getfield 16, 3) := by decide +kernel
theorem dX10_image_52 : decode cX10_image 52 = .ok (.iload_n 1, 1) := by decide +kernel
theorem dX10_image_53 : decode cX10_image 53 = .ok (.iconst 1, 1) := by decide +kernel
theorem dX10_image_54 : decode cX10_image 54 = .ok (.bastore, 1) := by decide +kernel
theorem dX10_image_55 : decode cX10_image 55 = .ok (.iconst 0, 1) := by decide +kernel
theorem dX10_image_56 : decode cX10_image 56 = .ok (.ireturn, 1) := by decide +kernel
theorem dX10_joins_0 : decode cX10_joins 0 = .ok (.aload_n 0, 1) := by decide +kernel
theorem dX10_joins_1 : decode cX10_joins 1 = .ok (.iload_n 2, 1) := by decide +kernel
theorem dX10_joins_2 : decode cX10_joins 2 = .ok (.invokevirtual 373, 3) := by decide +kernel
theorem dX10_joins_5 : decode cX10_joins 5 = .ok (.ifCond .eq 21, 3) := by decide +kernel
theorem dX10_joins_26 : decode cX10_joins 26 = .ok (.bipush (-2), 2) := by decide +kernel
theorem dX10_joins_28 : decode cX10_joins 28 = .ok (.ireturn, 1) := by decide +kernel
theorem dX10_keeps_0 : decode cX10_keeps 0 = .ok (.aload_n 0, 1) := by decide +kernel
theorem dX10_keeps_1 : decode cX10_keeps 1 = .ok (.iload_n 1, 1) := by decide +kernel
theorem dX10_keeps_2 : decode cX10_keeps 2 = .ok (.i2l, 1) := by decide +kernel
theorem dX10_keeps_3 : decode cX10_keeps 3 = .ok (.invokevirtual 261, 3) := by decide +kernel
theorem dX10_keeps_6 : decode cX10_keeps 6 = .ok (.ifCond .eq 15, 3) := by decide +kernel
theorem dX10_keeps_21 : decode cX10_keeps 21 = .ok (.bipush (-2), 2) := by decide +kernel
theorem dX10_keeps_23 : decode cX10_keeps 23 = .ok (.ireturn, 1) := by decide +kernel
theorem dX10_law_0 : decode cX10_law 0 = .ok (.aload_n 0, 1) := by decide +kernel
theorem dX10_law_1 : decode cX10_law 1 = .ok (.invokevirtual 335, 3) := by decide +kernel
theorem dX10_law_4 : decode cX10_law 4 = .ok (.ifCond .ne 6, 3) := by decide +kernel
theorem dX10_law_7 : decode cX10_law 7 = .ok (.bipush (-2), 2) := by decide +kernel
theorem dX10_law_9 : decode cX10_law 9 = .ok (.ireturn, 1) := by decide +kernel
theorem dX10_laws_0 : decode cX10_laws 0 = .ok (.aload_n 0, 1) := by decide +kernel
theorem dX10_laws_1 : decode cX10_laws 1 = .ok (.iload_n 1, 1) := by decide +kernel
theorem dX10_laws_2 : decode cX10_laws 2 = .ok (.invokevirtual 429, 3) := by decide +kernel
theorem dX10_laws_5 : decode cX10_laws 5 = .ok (.istore_n 2, 1) := by decide +kernel
theorem dX10_laws_6 : decode cX10_laws 6 = .ok (.iload_n 2, 1) := by decide +kernel
theorem dX10_laws_7 : decode cX10_laws 7 = .ok (.ifCond .ge 5, 3) := by decide +kernel
theorem dX10_laws_10 : decode cX10_laws 10 = .ok (.iload_n 2, 1) := by decide +kernel
theorem dX10_laws_11 : decode cX10_laws 11 = .ok (.ireturn, 1) := by decide +kernel
theorem dX10_leaves_0 : decode cX10_leaves 0 = .ok (.aload_n 0, 1) := by decide +kernel
theorem dX10_leaves_1 : decode cX10_leaves 1 = .ok (.iload_n 1, 1) := by decide +kernel
theorem dX10_leaves_2 : decode cX10_leaves 2 = .ok (.iload_n 2, 1) := by decide +kernel
theorem dX10_leaves_3 : decode cX10_leaves 3 = .ok (.invokevirtual 435, 3) := by decide +kernel
theorem dX10_leaves_6 : decode cX10_leaves 6 = .ok (.istore_n 3, 1) := by decide +kernel
theorem dX10_leaves_7 : decode cX10_leaves 7 = .ok (.iload_n 3, 1) := by decide +kernel
theorem dX10_leaves_8 : decode cX10_leaves 8 = .ok (.ifCond .ge 5, 3) := by decide +kernel
theorem dX10_leaves_11 : decode cX10_leaves 11 = .ok (.iload_n 3, 1) := by decide +kernel
theorem dX10_leaves_12 : decode cX10_leaves 12 = .ok (.ireturn, 1) := by decide +kernel
theorem dX10_line_0 : decode cX10_line 0 = .ok (.aload_n 0, 1) := by decide +kernel
theorem dX10_line_1 : decode cX10_line 1 = .ok (.iload_n 1, 1) := by decide +kernel
theorem dX10_line_2 : decode cX10_line 2 = .ok (.invokevirtual 373, 3) := by decide +kernel
theorem dX10_line_5 : decode cX10_line 5 = .ok (.ifCond .ne 6, 3) := by decide +kernel
theorem dX10_line_8 : decode cX10_line 8 = .ok (.bipush (-2), 2) := by decide +kernel
theorem dX10_line_10 : decode cX10_line 10 = .ok (.ireturn, 1) := by decide +kernel
theorem dX10_loop_0 : decode cX10_loop 0 = .ok (.aload_n 0, 1) := by decide +kernel
theorem dX10_loop_1 : decode cX10_loop 1 = .ok (.iload_n 1, 1) := by decide +kernel
theorem dX10_loop_2 : decode cX10_loop 2 = .ok (.invokevirtual 356, 3) := by decide +kernel
theorem dX10_loop_5 : decode cX10_loop 5 = .ok (.ifCond .ne 6, 3) := by decide +kernel
theorem dX10_loop_8 : decode cX10_loop 8 = .ok (.bipush (-2), 2) := by decide +kernel
theorem dX10_loop_10 : decode cX10_loop 10 = .ok (.ireturn, 1) := by decide +kernel
theorem dX10_luck_0 : decode cX10_luck 0 = .ok (.iload_n 1, 1) := by decide +kernel
theorem dX10_luck_1 : decode cX10_luck 1 = .ok (.invokestatic 514, 3) := by decide +kernel
theorem dX10_luck_4 : decode cX10_luck 4 = .ok (.ifCond .eq 24, 3) := by decide +kernel
theorem dX10_luck_7 : decode cX10_luck 7 = .ok (.iload_n 2, 1) := by decide +kernel
theorem dX10_luck_8 : decode cX10_luck 8 = .ok (.i2l, 1) := by decide +kernel
theorem dX10_luck_9 : decode cX10_luck 9 = .ok (.lconst 1, 1) := by decide +kernel
theorem dX10_luck_10 : decode cX10_luck 10 = .ok (.ldc2_w 521, 3) := by decide +kernel
theorem dX10_luck_13 : decode cX10_luck 13 = .ok (.invokestatic 106, 3) := by decide +kernel
theorem dX10_luck_16 : decode cX10_luck 16 = .ok (.ifCond .eq 12, 3) := by decide +kernel
theorem dX10_luck_19 : decode cX10_luck 19 = .ok (.aload_n 0, 1) := by decide +kernel
theorem dX10_luck_20 : decode cX10_luck 20 = .ok (.iload_n 3, 1) := by decide +kernel
theorem dX10_luck_21 : decode cX10_luck 21 = .ok (.i2l, 1) := by decide +kernel
theorem dX10_luck_22 : decode cX10_luck 22 = .ok (.invokevirtual 310, 3) := by decide +kernel
theorem dX10_luck_25 : decode cX10_luck 25 = .ok (.ifCond .ne 6, 3) := by decide +kernel
theorem dX10_luck_28 : decode cX10_luck 28 = .ok (.bipush (-2), 2) := by decide +kernel
theorem dX10_luck_30 : decode cX10_luck 30 = .ok (.ireturn, 1) := by decide +kernel
theorem dX10_mean_0 : decode cX10_mean 0 = .ok (.aload_n 0, 1) := by decide +kernel
theorem dX10_mean_1 : decode cX10_mean 1 = .ok (.invokevirtual 114, 3) := by decide +kernel
theorem dX10_mean_4 : decode cX10_mean 4 = .ok (.ifCond .eq 13, 3) := by decide +kernel
theorem dX10_mean_17 : decode cX10_mean 17 = .ok (.ldc2_w 496, 3) := by decide +kernel
theorem dX10_mean_20 : decode cX10_mean 20 = .ok (.lreturn, 1) := by decide +kernel
theorem dX10_missing_0 : decode cX10_missing 0 = .ok (.aload_n 0, 1) := by decide +kernel
theorem dX10_missing_1 : decode cX10_missing 1 = .ok (.iload_n 1, 1) := by decide +kernel
theorem dX10_missing_2 : decode cX10_missing 2 = .ok (.invokevirtual 373, 3) := by decide +kernel
theorem dX10_missing_5 : decode cX10_missing 5 = .ok (.ifCond .ne 6, 3) := by decide +kernel
theorem dX10_missing_8 : decode cX10_missing 8 = .ok (.bipush (-2), 2) := by decide +kernel
theorem dX10_missing_10 : decode cX10_missing 10 = .ok (.ireturn, 1) := by decide +kernel
theorem dX10_moved_0 : decode cX10_moved 0 = .ok (.aload_n 0, 1) := by decide +kernel
theorem dX10_moved_1 : decode cX10_moved 1 = .ok (.invokevirtual 335, 3) := by decide +kernel
theorem dX10_moved_4 : decode cX10_moved 4 = .ok (.pop, 1) := by decide +kernel
theorem dX10_moved_5 : decode cX10_moved 5 = .ok (.aload_n 0, 1) := by decide +kernel
theorem dX10_moved_6 : decode cX10_moved 6 = .ok (.iload_n 1, 1) := by decide +kernel
theorem dX10_moved_7 : decode cX10_moved 7 = .ok (.invokevirtual 410, 3) := by decide +kernel
theorem dX10_moved_10 : decode cX10_moved 10 = .ok (.ifCond .eq 12, 3) := by decide +kernel
theorem dX10_moved_22 : decode cX10_moved 22 = .ok (.bipush (-2), 2) := by decide +kernel
theorem dX10_moved_24 : decode cX10_moved 24 = .ok (.ireturn, 1) := by decide +kernel
theorem dX10_moves_0 : decode cX10_moves 0 = .ok (.aload_n 0, 1) := by decide +kernel
theorem dX10_moves_1 : decode cX10_moves 1 = .ok (.iload_n 1, 1) := by decide +kernel
theorem dX10_moves_2 : decode cX10_moves 2 = .ok (.invokevirtual 356, 3) := by decide +kernel
theorem dX10_moves_5 : decode cX10_moves 5 = .ok (.ifCond .ne 6, 3) := by decide +kernel
theorem dX10_moves_8 : decode cX10_moves 8 = .ok (.bipush (-2), 2) := by decide +kernel
theorem dX10_moves_10 : decode cX10_moves 10 = .ok (.ireturn, 1) := by decide +kernel
theorem dX10_net_0 : decode cX10_net 0 = .ok (.aload_n 0, 1) := by decide +kernel
theorem dX10_net_1 : decode cX10_net 1 = .ok (.iload_n 2, 1) := by decide +kernel
theorem dX10_net_2 : decode cX10_net 2 = .ok (.invokevirtual 373, 3) := by decide +kernel
theorem dX10_net_5 : decode cX10_net 5 = .ok (.ifCond .eq 21, 3) := by decide +kernel
theorem dX10_net_26 : decode cX10_net 26 = .ok (.bipush (-2), 2) := by decide +kernel
theorem dX10_net_28 : decode cX10_net 28 = .ok (.ireturn, 1) := by decide +kernel
theorem dX10_nets_0 : decode cX10_nets 0 = .ok (.aload_n 0, 1) := by decide +kernel
theorem dX10_nets_1 : decode cX10_nets 1 = .ok (.iload_n 1, 1) := by decide +kernel
theorem dX10_nets_2 : decode cX10_nets 2 = .ok (.invokevirtual 373, 3) := by decide +kernel
theorem dX10_nets_5 : decode cX10_nets 5 = .ok (.ifCond .eq 11, 3) := by decide +kernel
theorem dX10_nets_16 : decode cX10_nets 16 = .ok (.bipush (-2), 2) := by decide +kernel
theorem dX10_nets_18 : decode cX10_nets 18 = .ok (.ireturn, 1) := by decide +kernel
theorem dX10_paste_0 : decode cX10_paste 0 = .ok (.iload_n 1, 1) := by decide +kernel
theorem dX10_paste_1 : decode cX10_paste 1 = .ok (.invokestatic 422, 3) := by decide +kernel
theorem dX10_paste_4 : decode cX10_paste 4 = .ok (.ifCond .eq 10, 3) := by decide +kernel
theorem dX10_paste_7 : decode cX10_paste 7 = .ok (.iload_n 3, 1) := by decide +kernel
theorem dX10_paste_8 : decode cX10_paste 8 = .ok (.invokestatic 422, 3) := by decide +kernel
theorem dX10_paste_11 : decode cX10_paste 11 = .ok (.ifCond .ne 6, 3) := by decide +kernel
theorem dX10_paste_14 : decode cX10_paste 14 = .ok (.bipush (-2), 2) := by decide +kernel
theorem dX10_paste_16 : decode cX10_paste 16 = .ok (.ireturn, 1) := by decide +kernel
theorem dX10_paste_17 : decode cX10_paste 17 = .ok (.aload_n 0, 1) := by decide +kernel
theorem dX10_paste_18 : decode cX10_paste 18 = .ok (.getfield 88, 3) := by decide +kernel
theorem dX10_paste_21 : decode cX10_paste 21 = .ok (.iload_n 1, 1) := by decide +kernel
theorem dX10_paste_22 : decode cX10_paste 22 = .ok (.iaload, 1) := by decide +kernel
theorem dX10_paste_23 : decode cX10_paste 23 = .ok (.iconst (-1), 1) := by decide +kernel
theorem dX10_paste_24 : decode cX10_paste 24 = .ok (.if_icmp .eq 13, 3) := by decide +kernel
theorem dX10_paste_37 : decode cX10_paste 37 = .ok (.bipush (-6), 2) := by decide +kernel
theorem dX10_paste_39 : decode cX10_paste 39 = .ok (.ireturn, 1) := by decide +kernel
theorem dX10_pegs_0 : decode cX10_pegs 0 = .ok (.aload_n 0, 1) := by decide +kernel
theorem dX10_pegs_1 : decode cX10_pegs 1 = .ok (.iload_n 1, 1) := by decide +kernel
theorem dX10_pegs_2 : decode cX10_pegs 2 = .ok (.invokevirtual 373, 3) := by decide +kernel
theorem dX10_pegs_5 : decode cX10_pegs 5 = .ok (.ifCond .eq 11, 3) := by decide +kernel
theorem dX10_pegs_16 : decode cX10_pegs 16 = .ok (.bipush (-2), 2) := by decide +kernel
theorem dX10_pegs_18 : decode cX10_pegs 18 = .ok (.ireturn, 1) := by decide +kernel
theorem dX10_rate_0 : decode cX10_rate 0 = .ok (.aload_n 0, 1) := by decide +kernel
theorem dX10_rate_1 : decode cX10_rate 1 = .ok (.iload_n 1, 1) := by decide +kernel
theorem dX10_rate_2 : decode cX10_rate 2 = .ok (.i2l, 1) := by decide +kernel
theorem dX10_rate_3 : decode cX10_rate 3 = .ok (.invokevirtual 261, 3) := by decide +kernel
theorem dX10_rate_6 : decode cX10_rate 6 = .ok (.ifCond .eq 15, 3) := by decide +kernel
theorem dX10_rate_21 : decode cX10_rate 21 = .ok (.bipush (-2), 2) := by decide +kernel
theorem dX10_rate_23 : decode cX10_rate 23 = .ok (.ireturn, 1) := by decide +kernel
theorem dX10_rests_0 : decode cX10_rests 0 = .ok (.aload_n 0, 1) := by decide +kernel
theorem dX10_rests_1 : decode cX10_rests 1 = .ok (.iload_n 1, 1) := by decide +kernel
theorem dX10_rests_2 : decode cX10_rests 2 = .ok (.iload_n 2, 1) := by decide +kernel
theorem dX10_rests_3 : decode cX10_rests 3 = .ok (.invokevirtual 479, 3) := by decide +kernel
theorem dX10_rests_6 : decode cX10_rests 6 = .ok (.ifCond .ne 6, 3) := by decide +kernel
theorem dX10_rests_9 : decode cX10_rests 9 = .ok (.bipush (-2), 2) := by decide +kernel
theorem dX10_rests_11 : decode cX10_rests 11 = .ok (.ireturn, 1) := by decide +kernel
theorem dX10_rings_0 : decode cX10_rings 0 = .ok (.aload_n 0, 1) := by decide +kernel
theorem dX10_rings_1 : decode cX10_rings 1 = .ok (.iload_n 1, 1) := by decide +kernel
theorem dX10_rings_2 : decode cX10_rings 2 = .ok (.invokevirtual 373, 3) := by decide +kernel
theorem dX10_rings_5 : decode cX10_rings 5 = .ok (.ifCond .eq 23, 3) := by decide +kernel
theorem dX10_rings_28 : decode cX10_rings 28 = .ok (.bipush (-2), 2) := by decide +kernel
theorem dX10_rings_30 : decode cX10_rings 30 = .ok (.ireturn, 1) := by decide +kernel
theorem dX10_road_0 : decode cX10_road 0 = .ok (.aload_n 0, 1) := by decide +kernel
theorem dX10_road_1 : decode cX10_road 1 = .ok (.iload_n 2, 1) := by decide +kernel
theorem dX10_road_2 : decode cX10_road 2 = .ok (.invokevirtual 373, 3) := by decide +kernel
theorem dX10_road_5 : decode cX10_road 5 = .ok (.ifCond .eq 12, 3) := by decide +kernel
theorem dX10_road_17 : decode cX10_road 17 = .ok (.bipush (-2), 2) := by decide +kernel
theorem dX10_road_19 : decode cX10_road 19 = .ok (.ireturn, 1) := by decide +kernel
theorem dX10_roads_0 : decode cX10_roads 0 = .ok (.aload_n 0, 1) := by decide +kernel
theorem dX10_roads_1 : decode cX10_roads 1 = .ok (.iload_n 1, 1) := by decide +kernel
theorem dX10_roads_2 : decode cX10_roads 2 = .ok (.invokevirtual 373, 3) := by decide +kernel
theorem dX10_roads_5 : decode cX10_roads 5 = .ok (.ifCond .eq 11, 3) := by decide +kernel
theorem dX10_roads_16 : decode cX10_roads 16 = .ok (.bipush (-2), 2) := by decide +kernel
theorem dX10_roads_18 : decode cX10_roads 18 = .ok (.ireturn, 1) := by decide +kernel
theorem dX10_row_0 : decode cX10_row 0 = .ok (.iload_n 1, 1) := by decide +kernel
theorem dX10_row_1 : decode cX10_row 1 = .ok (.invokestatic 422, 3) := by decide +kernel
theorem dX10_row_4 : decode cX10_row 4 = .ok (.ifCond .eq 21, 3) := by decide +kernel
theorem dX10_row_7 : decode cX10_row 7 = .ok (.iload_n 2, 1) := by decide +kernel
theorem dX10_row_8 : decode cX10_row 8 = .ok (.i2l, 1) := by decide +kernel
theorem dX10_row_9 : decode cX10_row 9 = .ok (.lconst 0, 1) := by decide +kernel
theorem dX10_row_10 : decode cX10_row 10 = .ok (.ldc2_w 449, 3) := by decide +kernel
theorem dX10_row_13 : decode cX10_row 13 = .ok (.invokestatic 106, 3) := by decide +kernel
theorem dX10_row_16 : decode cX10_row 16 = .ok (.ifCond .eq 9, 3) := by decide +kernel
theorem dX10_row_19 : decode cX10_row 19 = .ok (.iload_n 3, 1) := by decide +kernel
theorem dX10_row_20 : decode cX10_row 20 = .ok (.bipush 60, 2) := by decide +kernel
theorem dX10_row_22 : decode cX10_row 22 = .ok (.if_icmp .le 6, 3) := by decide +kernel
theorem dX10_row_25 : decode cX10_row 25 = .ok (.bipush (-2), 2) := by decide +kernel
theorem dX10_row_27 : decode cX10_row 27 = .ok (.ireturn, 1) := by decide +kernel
theorem dX10_row_28 : decode cX10_row 28 = .ok (.iload_n 3, 1) := by decide +kernel
theorem dX10_row_29 : decode cX10_row 29 = .ok (.ifCond .ge 6, 3) := by decide +kernel
theorem dX10_row_32 : decode cX10_row 32 = .ok (.bipush (-3), 2) := by decide +kernel
theorem dX10_row_34 : decode cX10_row 34 = .ok (.ireturn, 1) := by decide +kernel
theorem dX10_row_35 : decode cX10_row 35 = .ok (.aload_n 0, 1) := by decide +kernel
theorem dX10_row_36 : decode cX10_row 36 = .ok (.getfield 88, 3) := by decide +kernel
theorem dX10_row_39 : decode cX10_row 39 = .ok (.iload_n 1, 1) := by decide +kernel
theorem dX10_row_40 : decode cX10_row 40 = .ok (.iload_n 3, 1) := by decide +kernel
theorem dX10_row_41 : decode cX10_row 41 = .ok (.iastore, 1) := by decide +kernel
theorem dX10_row_42 : decode cX10_row 42 = .ok (.aload_n 0, 1) := by decide +kernel
theorem dX10_row_43 : decode cX10_row 43 = .ok (.getfield 91, 3) := by decide +kernel
theorem dX10_row_46 : decode cX10_row 46 = .ok (.iload_n 1, 1) := by decide +kernel
theorem dX10_row_47 : decode cX10_row 47 = .ok (.iload_n 2, 1) := by decide +kernel
theorem dX10_row_48 : decode cX10_row 48 = .ok (.iastore, 1) := by decide +kernel
theorem dX10_row_49 : decode cX10_row 49 = .ok (.iconst 0, 1) := by decide +kernel
theorem dX10_row_50 : decode cX10_row 50 = .ok (.istore 4, 2) := by decide +kernel
theorem dX10_row_52 : decode cX10_row 52 = .ok (.iload 4, 2) := by decide +kernel
theorem dX10_row_54 : decode cX10_row 54 = .ok (.bipush 60, 2) := by decide +kernel
theorem dX10_row_56 : decode cX10_row 56 = .ok (.if_icmp .ge 22, 3) := by decide +kernel
theorem dX10_row_59 : decode cX10_row 59 = .ok (.aload_n 0, 1) := by decide +kernel
theorem dX10_row_60 : decode cX10_row 60 = .ok (.getfield 94, 3) := by decide +kernel
theorem dX10_row_63 : decode cX10_row 63 = .ok (.bipush 60, 2) := by decide +kernel
theorem dX10_row_65 : decode cX10_row 65 = .ok (.iload_n 1, 1) := by decide +kernel
theorem dX10_row_66 : decode cX10_row 66 = .ok (.imul, 1) := by decide +kernel
theorem dX10_row_67 : decode cX10_row 67 = .ok (.iload 4, 2) := by decide +kernel
theorem dX10_row_69 : decode cX10_row 69 = .ok (.iadd, 1) := by decide +kernel
theorem dX10_row_70 : decode cX10_row 70 = .ok (.lconst 0, 1) := by decide +kernel
theorem dX10_row_71 : decode cX10_row 71 = .ok (.lastore, 1) := by decide +kernel
theorem dX10_row_72 : decode cX10_row 72 = .ok (.iinc 4 1, 3) := by decide +kernel
theorem dX10_row_75 : decode cX10_row 75 = .ok (.goto (-23), 3) := by decide +kernel
theorem dX10_row_78 : decode cX10_row 78 = .ok (.iconst 0, 1) := by decide +kernel
theorem dX10_row_79 : decode cX10_row 79 = .ok (.ireturn, 1) := by decide +kernel
theorem dX10_served_0 : decode cX10_served 0 = .ok (.aload_n 0, 1) := by decide +kernel
theorem dX10_served_1 : decode cX10_served 1 = .ok (.iload_n 1, 1) := by decide +kernel
theorem dX10_served_2 : decode cX10_served 2 = .ok (.invokevirtual 373, 3) := by decide +kernel
theorem dX10_served_5 : decode cX10_served 5 = .ok (.ifCond .ne 6, 3) := by decide +kernel
theorem dX10_served_8 : decode cX10_served 8 = .ok (.bipush (-2), 2) := by decide +kernel
theorem dX10_served_10 : decode cX10_served 10 = .ok (.ireturn, 1) := by decide +kernel
theorem dX10_share_0 : decode cX10_share 0 = .ok (.aload_n 0, 1) := by decide +kernel
theorem dX10_share_1 : decode cX10_share 1 = .ok (.invokevirtual 457, 3) := by decide +kernel
theorem dX10_share_4 : decode cX10_share 4 = .ok (.aload_n 0, 1) := by decide +kernel
theorem dX10_share_5 : decode cX10_share 5 = .ok (.iload_n 1, 1) := by decide +kernel
theorem dX10_share_6 : decode cX10_share 6 = .ok (.i2l, 1) := by decide +kernel
theorem dX10_share_7 : decode cX10_share 7 = .ok (.invokevirtual 261, 3) := by decide +kernel
theorem dX10_share_10 : decode cX10_share 10 = .ok (.ifCond .eq 13, 3) := by decide +kernel
theorem dX10_share_23 : decode cX10_share 23 = .ok (.ldc_w 471, 3) := by decide +kernel
theorem dX10_share_26 : decode cX10_share 26 = .ok (.ireturn, 1) := by decide +kernel
theorem dX10_shared_0 : decode cX10_shared 0 = .ok (.aload_n 0, 1) := by decide +kernel
theorem dX10_shared_1 : decode cX10_shared 1 = .ok (.iload_n 1, 1) := by decide +kernel
theorem dX10_shared_2 : decode cX10_shared 2 = .ok (.invokevirtual 356, 3) := by decide +kernel
theorem dX10_shared_5 : decode cX10_shared 5 = .ok (.ifCond .eq 12, 3) := by decide +kernel
theorem dX10_shared_17 : decode cX10_shared 17 = .ok (.bipush (-2), 2) := by decide +kernel
theorem dX10_shared_19 : decode cX10_shared 19 = .ok (.ireturn, 1) := by decide +kernel
theorem dX10_stands_0 : decode cX10_stands 0 = .ok (.aload_n 0, 1) := by decide +kernel
theorem dX10_stands_1 : decode cX10_stands 1 = .ok (.iload_n 1, 1) := by decide +kernel
theorem dX10_stands_2 : decode cX10_stands 2 = .ok (.invokevirtual 356, 3) := by decide +kernel
theorem dX10_stands_5 : decode cX10_stands 5 = .ok (.ifCond .ne 6, 3) := by decide +kernel
theorem dX10_stands_8 : decode cX10_stands 8 = .ok (.bipush (-2), 2) := by decide +kernel
theorem dX10_stands_10 : decode cX10_stands 10 = .ok (.ireturn, 1) := by decide +kernel
theorem dX10_steps_0 : decode cX10_steps 0 = .ok (.aload_n 0, 1) := by decide +kernel
theorem dX10_steps_1 : decode cX10_steps 1 = .ok (.iload_n 1, 1) := by decide +kernel
theorem dX10_steps_2 : decode cX10_steps 2 = .ok (.invokevirtual 356, 3) := by decide +kernel
theorem dX10_steps_5 : decode cX10_steps 5 = .ok (.ifCond .eq 12, 3) := by decide +kernel
theorem dX10_steps_17 : decode cX10_steps 17 = .ok (.bipush (-2), 2) := by decide +kernel
theorem dX10_steps_19 : decode cX10_steps 19 = .ok (.ireturn, 1) := by decide +kernel
theorem dX10_straight_0 : decode cX10_straight 0 = .ok (.aload_n 0, 1) := by decide +kernel
theorem dX10_straight_1 : decode cX10_straight 1 = .ok (.iload_n 1, 1) := by decide +kernel
theorem dX10_straight_2 : decode cX10_straight 2 = .ok (.invokevirtual 356, 3) := by decide +kernel
theorem dX10_straight_5 : decode cX10_straight 5 = .ok (.ifCond .ne 6, 3) := by decide +kernel
theorem dX10_straight_8 : decode cX10_straight 8 = .ok (.bipush (-2), 2) := by decide +kernel
theorem dX10_straight_10 : decode cX10_straight 10 = .ok (.ireturn, 1) := by decide +kernel
theorem dX10_undo_0 : decode cX10_undo 0 = .ok (.aload_n 0, 1) := by decide +kernel
theorem dX10_undo_1 : decode cX10_undo 1 = .ok (.invokevirtual 114, 3) := by decide +kernel
theorem dX10_undo_4 : decode cX10_undo 4 = .ok (.ifCond .ne 6, 3) := by decide +kernel
theorem dX10_undo_7 : decode cX10_undo 7 = .ok (.bipush (-2), 2) := by decide +kernel
theorem dX10_undo_9 : decode cX10_undo 9 = .ok (.ireturn, 1) := by decide +kernel
theorem dX10_visits_0 : decode cX10_visits 0 = .ok (.aload_n 0, 1) := by decide +kernel
theorem dX10_visits_1 : decode cX10_visits 1 = .ok (.iload_n 1, 1) := by decide +kernel
theorem dX10_visits_2 : decode cX10_visits 2 = .ok (.invokevirtual 356, 3) := by decide +kernel
theorem dX10_visits_5 : decode cX10_visits 5 = .ok (.ifCond .eq 21, 3) := by decide +kernel
theorem dX10_visits_26 : decode cX10_visits 26 = .ok (.bipush (-2), 2) := by decide +kernel
theorem dX10_visits_28 : decode cX10_visits 28 = .ok (.ireturn, 1) := by decide +kernel
theorem dX10_walked_0 : decode cX10_walked 0 = .ok (.aload_n 0, 1) := by decide +kernel
theorem dX10_walked_1 : decode cX10_walked 1 = .ok (.iload_n 1, 1) := by decide +kernel
theorem dX10_walked_2 : decode cX10_walked 2 = .ok (.invokevirtual 353, 3) := by decide +kernel
theorem dX10_walked_5 : decode cX10_walked 5 = .ok (.ifCond .eq 11, 3) := by decide +kernel
theorem dX10_walked_16 : decode cX10_walked 16 = .ok (.bipush (-2), 2) := by decide +kernel
theorem dX10_walked_18 : decode cX10_walked 18 = .ok (.ireturn, 1) := by decide +kernel
theorem dX10_way_0 : decode cX10_way 0 = .ok (.aload_n 0, 1) := by decide +kernel
theorem dX10_way_1 : decode cX10_way 1 = .ok (.iload_n 3, 1) := by decide +kernel
theorem dX10_way_2 : decode cX10_way 2 = .ok (.invokevirtual 373, 3) := by decide +kernel
theorem dX10_way_5 : decode cX10_way 5 = .ok (.ifCond .eq 21, 3) := by decide +kernel
theorem dX10_way_26 : decode cX10_way 26 = .ok (.bipush (-2), 2) := by decide +kernel
theorem dX10_way_28 : decode cX10_way 28 = .ok (.ireturn, 1) := by decide +kernel
theorem dX10_widow_0 : decode cX10_widow 0 = .ok (.aload_n 0, 1) := by decide +kernel
theorem dX10_widow_1 : decode cX10_widow 1 = .ok (.iload_n 1, 1) := by decide +kernel
theorem dX10_widow_2 : decode cX10_widow 2 = .ok (.i2l, 1) := by decide +kernel
theorem dX10_widow_3 : decode cX10_widow 3 = .ok (.invokevirtual 261, 3) := by decide +kernel
theorem dX10_widow_6 : decode cX10_widow 6 = .ok (.ifCond .eq 24, 3) := by decide +kernel
theorem dX10_widow_30 : decode cX10_widow 30 = .ok (.bipush (-2), 2) := by decide +kernel
theorem dX10_widow_32 : decode cX10_widow 32 = .ok (.ireturn, 1) := by decide +kernel
theorem dX10_worth_0 : decode cX10_worth 0 = .ok (.aload_n 0, 1) := by decide +kernel
theorem dX10_worth_1 : decode cX10_worth 1 = .ok (.invokevirtual 457, 3) := by decide +kernel
theorem dX10_worth_4 : decode cX10_worth 4 = .ok (.aload_n 0, 1) := by decide +kernel
theorem dX10_worth_5 : decode cX10_worth 5 = .ok (.invokevirtual 114, 3) := by decide +kernel
theorem dX10_worth_8 : decode cX10_worth 8 = .ok (.ifCond .eq 25, 3) := by decide +kernel
theorem dX10_worth_33 : decode cX10_worth 33 = .ok (.bipush (-2), 2) := by decide +kernel
theorem dX10_worth_35 : decode cX10_worth 35 = .ok (.ireturn, 1) := by decide +kernel
theorem dX10_write_0 : decode cX10_write 0 = .ok (.iload_n 1, 1) := by decide +kernel
theorem dX10_write_1 : decode cX10_write 1 = .ok (.invokestatic 422, 3) := by decide +kernel
theorem dX10_write_4 : decode cX10_write 4 = .ok (.ifCond .ne 6, 3) := by decide +kernel
theorem dX10_write_7 : decode cX10_write 7 = .ok (.bipush (-2), 2) := by decide +kernel
theorem dX10_write_9 : decode cX10_write 9 = .ok (.ireturn, 1) := by decide +kernel
theorem dX10_write_10 : decode cX10_write 10 = .ok (.aload_n 0, 1) := by decide +kernel
theorem dX10_write_11 : decode cX10_write 11 = .ok (.getfield 88, 3) := by decide +kernel
theorem dX10_write_14 : decode cX10_write 14 = .ok (.iload_n 1, 1) := by decide +kernel
theorem dX10_write_15 : decode cX10_write 15 = .ok (.iaload, 1) := by decide +kernel
theorem dX10_write_16 : decode cX10_write 16 = .ok (.iconst (-1), 1) := by decide +kernel
theorem dX10_write_17 : decode cX10_write 17 = .ok (.if_icmp .ne 6, 3) := by decide +kernel
theorem dX10_write_20 : decode cX10_write 20 = .ok (.bipush (-6), 2) := by decide +kernel
theorem dX10_write_22 : decode cX10_write 22 = .ok (.ireturn, 1) := by decide +kernel
set_option maxHeartbeats 4000000 in
set_option maxRecDepth 100000 in
theorem f_X10_creek (l : Launch) (G : va_G) (cI cJ cZ cB cQ : ClassId) (sz : Nat) (h0 : Nat) (b : Nat → Nat) (p0 : Int32) : CI l yX10_creek (wl_ yX10_creek cX10_creek 2 (some .int)) ({ frames := 5, cells := 0, slots := 0, locals := 103 } : Room) G (TY cI cJ cZ cB cQ) [.ref h0, .int p0] [(h0, oX10 b 0 0 0 0 0 0 0 0 (-1) 0 0 0 0 0 0 0 0 0), (b 1, .inl (cI, 149, .inl (fun _ => 0))), (b 15, .inl (cZ, 80, .inl (fun _ => 0))), (b 16, .inl (cI, 7, .inl (fun _ => 0))), (b 21, .inl (cZ, 80, .inl (fun _ => 0))), (b 24, .inl (cI, 80, .inl (fun _ => 0))), (b 25, .inl (cI, 6, .inl (fun _ => 0))), (b 29, .inl (cI, 6, .inl (fun _ => 0))), (b 30, .inl (cZ, 1040, .inl (fun _ => 0))), (b 31, .inl (cI, 1040, .inl (fun _ => 0))), (b 32, .inl (cI, 78, .inl (fun _ => 0))), (b 27, .inl (cI, 7, .inl (fun _ => 0)))] sz (fun (r : Int32) (u : (Nat → Int32)) => r = (-2)) (fun u : (Nat → Int32) => [(h0, oX10 b 0 0 0 0 0 0 0 0 (-1) 0 0 (-1) 0 0 0 0 0 0), (b 1, .inl (cI, 149, .inl (fun _ => 0))), (b 15, .inl (cZ, 80, .inl (fun _ => 0))), (b 16, .inl (cI, 7, .inl (fun _ => 0))), (b 21, .inl (cZ, 80, .inl (fun _ => 0))), (b 24, .inl (cI, 80, .inl (fun _ => 0))), (b 25, .inl (cI, 6, .inl (fun _ => 0))), (b 29, .inl (cI, 6, .inl (fun _ => 0))), (b 30, .inl (cZ, 1040, .inl (fun _ => 0))), (b 31, .inl (cI, 1040, .inl (fun _ => 0))), (b 32, .inl (cI, 78, .inl (fun _ => 0))), (b 27, .inl (cI, 7, .inl u))]) 0 0 := by
  refine CI.go (cc := cX10_creek) (maxL := 2) (ret := (some .int)) (by decide) rfl (Nat.le_of_ble_eq_true rfl) ?_
  intro p e s m below meth c A ls Q hBd hret
  obtain ⟨hx, hb, hr, hml, hts, hown, hlk, hnm, hP, hK, hD, hA, hZ, hl⟩ := hBd
  have hown : s.vm.findClass RX10 = some m.cls := hown
  have hl : lv_has ls 2 [(0, .ref h0), (1, .int p0)] := hl
  have hS : va_S A s.heap s.heap [] := va_S.rf
  refine lv_aload_n hx hb dX10_creek_0 rfl (lv_at hl 0 rfl) ?_
  refine lv_iload_n hx hb dX10_creek_1 rfl (lv_at hl 1 rfl) ?_
  refine k_i (wc := [(h0, oX10 b 0 0 0 0 0 0 0 0 (-1) 0 0 0 0 0 0 0 0 0), (b 1, .inl (cI, 149, .inl (fun _ => 0))), (b 15, .inl (cZ, 80, .inl (fun _ => 0))), (b 16, .inl (cI, 7, .inl (fun _ => 0))), (b 21, .inl (cZ, 80, .inl (fun _ => 0))), (b 24, .inl (cI, 80, .inl (fun _ => 0))), (b 25, .inl (cI, 6, .inl (fun _ => 0))), (b 29, .inl (cI, 6, .inl (fun _ => 0))), (b 30, .inl (cZ, 1040, .inl (fun _ => 0))), (b 31, .inl (cI, 1040, .inl (fun _ => 0))), (b 32, .inl (cI, 78, .inl (fun _ => 0))), (b 27, .inl (cI, 7, .inl (fun _ => 0)))]) (wr := []) hP hD hS hA [0, 1, 2, 3, 4, 5, 6, 7, 8, 9, 10, 11] [] rfl rfl rfl (by decide) (va_runV (As := [.int p0]) (rest := []) ⟨hx, hb, hml, hown, hts⟩ (f_X10_asksCell l G cI cJ cZ cB cQ _ h0 b p0) (cwV 1 hts (gV w_1481 w_1483 wp_104 w_11 w_1484) rfl rfl rfl ⟨rfl, hd_X10_asksCell⟩ ⟨Nat.le_of_ble_eq_true rfl, Nat.le_of_ble_eq_true rfl⟩) (mV hK hZ hP hD [0, 1, 2, 3, 4, 5, 6, 7, 8, 9, 10, 11] rfl rfl [.int p0] 0 10 rfl rfl) rfl rfl hl.1 rfl (lv_room (Nat.le_of_ble_eq_true rfl)) dX10_creek_2 ⟨Nat.le_of_ble_eq_true rfl, Nat.le_of_ble_eq_true rfl⟩) (fun r1 u2 H locs hw3 hP hD hS => ?_)
  obtain ⟨f04, rfl⟩ : ∃ z, z = u2 := ⟨_, rfl⟩
  try dsimp only at hw3
  have hP : va_P G vwCl [(h0, oX10 b 0 0 0 0 0 0 0 0 (-1) 0 0 (-1) 0 0 0 0 0 0), (b 1, .inl (cI, 149, .inl (fun _ => 0))), (b 15, .inl (cZ, 80, .inl (fun _ => 0))), (b 16, .inl (cI, 7, .inl (fun _ => 0))), (b 21, .inl (cZ, 80, .inl (fun _ => 0))), (b 24, .inl (cI, 80, .inl (fun _ => 0))), (b 25, .inl (cI, 6, .inl (fun _ => 0))), (b 29, .inl (cI, 6, .inl (fun _ => 0))), (b 30, .inl (cZ, 1040, .inl (fun _ => 0))), (b 31, .inl (cI, 1040, .inl (fun _ => 0))), (b 32, .inl (cI, 78, .inl (fun _ => 0))), (b 27, .inl (cI, 7, .inl f04))] H := hP
  have hD : va_D A [(h0, oX10 b 0 0 0 0 0 0 0 0 (-1) 0 0 (-1) 0 0 0 0 0 0), (b 1, .inl (cI, 149, .inl (fun _ => 0))), (b 15, .inl (cZ, 80, .inl (fun _ => 0))), (b 16, .inl (cI, 7, .inl (fun _ => 0))), (b 21, .inl (cZ, 80, .inl (fun _ => 0))), (b 24, .inl (cI, 80, .inl (fun _ => 0))), (b 25, .inl (cI, 6, .inl (fun _ => 0))), (b 29, .inl (cI, 6, .inl (fun _ => 0))), (b 30, .inl (cZ, 1040, .inl (fun _ => 0))), (b 31, .inl (cI, 1040, .inl (fun _ => 0))), (b 32, .inl (cI, 78, .inl (fun _ => 0))), (b 27, .inl (cI, 7, .inl f04))] := hD
  obtain rfl : r1 = 0 := hw3
  refine lv_if_ne (tgt := 11) hx hb dX10_creek_5 (by decide) (fun c5 => absurd (by decide) c5) (fun c5 => ?_)
  refine lv_bipush (v := (-2)) hx hb dX10_creek_8 (by decide) ?_
  exact hret _ _ _ _ (-2) f04 hP hD hS dX10_creek_10 rfl
set_option maxHeartbeats 4000000 in
set_option maxRecDepth 100000 in
theorem f_X10_widow (l : Launch) (G : va_G) (cI cJ cZ cB cQ : ClassId) (sz : Nat) (h0 : Nat) (b : Nat → Nat) (p0 : Int32) (p1 : Int32) : CI l yX10_widow (wl_ yX10_widow cX10_widow 3 (some .int)) ({ frames := 2, cells := 0, slots := 0, locals := 47 } : Room) G (TY cI cJ cZ cB cQ) [.ref h0, .int p0, .int p1] [(h0, oX10 b 0 0 0 0 0 0 0 0 (-1) 0 0 0 0 0 0 0 0 0), (b 1, .inl (cI, 149, .inl (fun _ => 0)))] sz (fun (r : Int32) (u : Unit) => r = (-2)) (fun _ : Unit => [(h0, oX10 b 0 0 0 0 0 0 0 0 (-1) 0 0 0 0 0 0 0 0 0), (b 1, .inl (cI, 149, .inl (fun _ => 0)))]) 0 0 := by
  refine CI.go (cc := cX10_widow) (maxL := 3) (ret := (some .int)) (by decide) rfl (Nat.le_of_ble_eq_true rfl) ?_
  intro p e s m below meth c A ls Q hBd hret
  obtain ⟨hx, hb, hr, hml, hts, hown, hlk, hnm, hP, hK, hD, hA, hZ, hl⟩ := hBd
  have hown : s.vm.findClass RX10 = some m.cls := hown
  have hl : lv_has ls 3 [(0, .ref h0), (1, .int p0), (2, .int p1)] := hl
  have hS : va_S A s.heap s.heap [] := va_S.rf
  refine lv_aload_n hx hb dX10_widow_0 rfl (lv_at hl 0 rfl) ?_
  refine lv_iload_n hx hb dX10_widow_1 rfl (lv_at hl 1 rfl) ?_
  obtain ⟨v1, ev1⟩ : ∃ y : Int64, p0.toInt64 = y := ⟨_, rfl⟩
  have tv1 : v1.toInt = p0.toInt := ti_wide rfl ev1
  refine lv_i2l (v := v1) hx hb dX10_widow_2 ev1 ?_
  refine k_i (wc := [(h0, oX10 b 0 0 0 0 0 0 0 0 (-1) 0 0 0 0 0 0 0 0 0), (b 1, .inl (cI, 149, .inl (fun _ => 0)))]) (wr := []) hP hD hS hA [0, 1] [] rfl rfl rfl (by decide) (va_runV (As := [.long v1]) (rest := []) ⟨hx, hb, hml, hown, hts⟩ (f_X10_isWidow l G cI cJ cZ cB cQ _ h0 b 0 v1) (cwV 1 hts (gV w_1460 w_1462 wp_101 w_11 w_1463) rfl rfl rfl ⟨rfl, hd_X10_isWidow⟩ ⟨Nat.le_of_ble_eq_true rfl, Nat.le_of_ble_eq_true rfl⟩) (mV hK hZ hP hD [0, 1] rfl rfl [.long v1] 0 10 rfl rfl) rfl rfl hl.1 rfl (lv_room (Nat.le_of_ble_eq_true rfl)) dX10_widow_3 ⟨Nat.le_of_ble_eq_true rfl, Nat.le_of_ble_eq_true rfl⟩) (fun r2 u3 H locs hw4 hP hD hS => ?_)
  try dsimp only at hw4
  have hP : va_P G vwCl [(h0, oX10 b 0 0 0 0 0 0 0 0 (-1) 0 0 0 0 0 0 0 0 0), (b 1, .inl (cI, 149, .inl (fun _ => 0)))] H := hP
  have hD : va_D A [(h0, oX10 b 0 0 0 0 0 0 0 0 (-1) 0 0 0 0 0 0 0 0 0), (b 1, .inl (cI, 149, .inl (fun _ => 0)))] := hD
  obtain rfl : r2 = 0 := hw4
  refine lv_if_eq (tgt := 30) hx hb dX10_widow_6 (by decide) (fun c5 => ?_) (fun c5 => absurd (by decide) c5)
  refine lv_bipush (v := (-2)) hx hb dX10_widow_30 (by decide) ?_
  exact hret _ _ _ _ (-2) () hP hD hS dX10_widow_32 rfl
set_option maxHeartbeats 4000000 in
set_option maxRecDepth 100000 in
theorem f_X10_grief (l : Launch) (G : va_G) (cI cJ cZ cB cQ : ClassId) (sz : Nat) (h0 : Nat) (b : Nat → Nat) (p0 : Int32) (p1 : Int32) : CI l yX10_grief (wl_ yX10_grief cX10_grief 3 (some .int)) ({ frames := 2, cells := 0, slots := 0, locals := 47 } : Room) G (TY cI cJ cZ cB cQ) [.ref h0, .int p0, .int p1] [(h0, oX10 b 0 0 0 0 0 0 0 0 (-1) 0 0 0 0 0 0 0 0 0), (b 1, .inl (cI, 149, .inl (fun _ => 0)))] sz (fun (r : Int32) (u : Unit) => r = (-2)) (fun _ : Unit => [(h0, oX10 b 0 0 0 0 0 0 0 0 (-1) 0 0 0 0 0 0 0 0 0), (b 1, .inl (cI, 149, .inl (fun _ => 0)))]) 0 0 := by
  refine CI.go (cc := cX10_grief) (maxL := 3) (ret := (some .int)) (by decide) rfl (Nat.le_of_ble_eq_true rfl) ?_
  intro p e s m below meth c A ls Q hBd hret
  obtain ⟨hx, hb, hr, hml, hts, hown, hlk, hnm, hP, hK, hD, hA, hZ, hl⟩ := hBd
  have hown : s.vm.findClass RX10 = some m.cls := hown
  have hl : lv_has ls 3 [(0, .ref h0), (1, .int p0), (2, .int p1)] := hl
  have hS : va_S A s.heap s.heap [] := va_S.rf
  refine lv_aload_n hx hb dX10_grief_0 rfl (lv_at hl 0 rfl) ?_
  refine lv_iload_n hx hb dX10_grief_1 rfl (lv_at hl 1 rfl) ?_
  obtain ⟨v1, ev1⟩ : ∃ y : Int64, p0.toInt64 = y := ⟨_, rfl⟩
  have tv1 : v1.toInt = p0.toInt := ti_wide rfl ev1
  refine lv_i2l (v := v1) hx hb dX10_grief_2 ev1 ?_
  refine k_i (wc := [(h0, oX10 b 0 0 0 0 0 0 0 0 (-1) 0 0 0 0 0 0 0 0 0), (b 1, .inl (cI, 149, .inl (fun _ => 0)))]) (wr := []) hP hD hS hA [0, 1] [] rfl rfl rfl (by decide) (va_runV (As := [.long v1]) (rest := []) ⟨hx, hb, hml, hown, hts⟩ (f_X10_isWidow l G cI cJ cZ cB cQ _ h0 b 0 v1) (cwV 1 hts (gV w_1460 w_1462 wp_101 w_11 w_1463) rfl rfl rfl ⟨rfl, hd_X10_isWidow⟩ ⟨Nat.le_of_ble_eq_true rfl, Nat.le_of_ble_eq_true rfl⟩) (mV hK hZ hP hD [0, 1] rfl rfl [.long v1] 0 10 rfl rfl) rfl rfl hl.1 rfl (lv_room (Nat.le_of_ble_eq_true rfl)) dX10_grief_3 ⟨Nat.le_of_ble_eq_true rfl, Nat.le_of_ble_eq_true rfl⟩) (fun r2 u3 H locs hw4 hP hD hS => ?_)
  try dsimp only at hw4
  have hP : va_P G vwCl [(h0, oX10 b 0 0 0 0 0 0 0 0 (-1) 0 0 0 0 0 0 0 0 0), (b 1, .inl (cI, 149, .inl (fun _ => 0)))] H := hP
  have hD : va_D A [(h0, oX10 b 0 0 0 0 0 0 0 0 (-1) 0 0 0 0 0 0 0 0 0), (b 1, .inl (cI, 149, .inl (fun _ => 0)))] := hD
  obtain rfl : r2 = 0 := hw4
  refine lv_if_eq (tgt := 13) hx hb dX10_grief_6 (by decide) (fun c5 => ?_) (fun c5 => absurd (by decide) c5)
  refine lv_bipush (v := (-2)) hx hb dX10_grief_13 (by decide) ?_
  exact hret _ _ _ _ (-2) () hP hD hS dX10_grief_15 rfl
set_option maxHeartbeats 4000000 in
set_option maxRecDepth 100000 in
theorem f_X10_at (l : Launch) (G : va_G) (cI cJ cZ cB cQ : ClassId) (sz : Nat) (h0 : Nat) (b : Nat → Nat) (p0 : Int32) (p1 : Int32) : CI l yX10_at (wl_ yX10_at cX10_at 3 (some .int)) ({ frames := 5, cells := 0, slots := 0, locals := 103 } : Room) G (TY cI cJ cZ cB cQ) [.ref h0, .int p0, .int p1] [(h0, oX10 b 0 0 0 0 0 0 0 0 (-1) 0 0 0 0 0 0 0 0 0), (b 1, .inl (cI, 149, .inl (fun _ => 0))), (b 15, .inl (cZ, 80, .inl (fun _ => 0))), (b 16, .inl (cI, 7, .inl (fun _ => 0))), (b 21, .inl (cZ, 80, .inl (fun _ => 0))), (b 24, .inl (cI, 80, .inl (fun _ => 0))), (b 25, .inl (cI, 6, .inl (fun _ => 0))), (b 29, .inl (cI, 6, .inl (fun _ => 0))), (b 30, .inl (cZ, 1040, .inl (fun _ => 0))), (b 31, .inl (cI, 1040, .inl (fun _ => 0))), (b 32, .inl (cI, 78, .inl (fun _ => 0))), (b 27, .inl (cI, 7, .inl (fun _ => 0)))] sz (fun (r : Int32) (u : (Nat → Int32)) => r = (-2)) (fun u : (Nat → Int32) => [(h0, oX10 b 0 0 0 0 0 0 0 0 (-1) 0 0 (-1) 0 0 0 0 0 0), (b 1, .inl (cI, 149, .inl (fun _ => 0))), (b 15, .inl (cZ, 80, .inl (fun _ => 0))), (b 16, .inl (cI, 7, .inl (fun _ => 0))), (b 21, .inl (cZ, 80, .inl (fun _ => 0))), (b 24, .inl (cI, 80, .inl (fun _ => 0))), (b 25, .inl (cI, 6, .inl (fun _ => 0))), (b 29, .inl (cI, 6, .inl (fun _ => 0))), (b 30, .inl (cZ, 1040, .inl (fun _ => 0))), (b 31, .inl (cI, 1040, .inl (fun _ => 0))), (b 32, .inl (cI, 78, .inl (fun _ => 0))), (b 27, .inl (cI, 7, .inl u))]) 0 0 := by
  refine CI.go (cc := cX10_at) (maxL := 3) (ret := (some .int)) (by decide) rfl (Nat.le_of_ble_eq_true rfl) ?_
  intro p e s m below meth c A ls Q hBd hret
  obtain ⟨hx, hb, hr, hml, hts, hown, hlk, hnm, hP, hK, hD, hA, hZ, hl⟩ := hBd
  have hown : s.vm.findClass RX10 = some m.cls := hown
  have hl : lv_has ls 3 [(0, .ref h0), (1, .int p0), (2, .int p1)] := hl
  have hS : va_S A s.heap s.heap [] := va_S.rf
  refine lv_aload_n hx hb dX10_at_0 rfl (lv_at hl 0 rfl) ?_
  refine lv_iload_n hx hb dX10_at_1 rfl (lv_at hl 1 rfl) ?_
  refine k_i (wc := [(h0, oX10 b 0 0 0 0 0 0 0 0 (-1) 0 0 0 0 0 0 0 0 0), (b 1, .inl (cI, 149, .inl (fun _ => 0))), (b 15, .inl (cZ, 80, .inl (fun _ => 0))), (b 16, .inl (cI, 7, .inl (fun _ => 0))), (b 21, .inl (cZ, 80, .inl (fun _ => 0))), (b 24, .inl (cI, 80, .inl (fun _ => 0))), (b 25, .inl (cI, 6, .inl (fun _ => 0))), (b 29, .inl (cI, 6, .inl (fun _ => 0))), (b 30, .inl (cZ, 1040, .inl (fun _ => 0))), (b 31, .inl (cI, 1040, .inl (fun _ => 0))), (b 32, .inl (cI, 78, .inl (fun _ => 0))), (b 27, .inl (cI, 7, .inl (fun _ => 0)))]) (wr := []) hP hD hS hA [0, 1, 2, 3, 4, 5, 6, 7, 8, 9, 10, 11] [] rfl rfl rfl (by decide) (va_runV (As := [.int p0]) (rest := []) ⟨hx, hb, hml, hown, hts⟩ (f_X10_asksWidow l G cI cJ cZ cB cQ _ h0 b p0) (cwV 1 hts (gV w_1567 w_1569 wp_122 w_11 w_1570) rfl rfl rfl ⟨rfl, hd_X10_asksWidow⟩ ⟨Nat.le_of_ble_eq_true rfl, Nat.le_of_ble_eq_true rfl⟩) (mV hK hZ hP hD [0, 1, 2, 3, 4, 5, 6, 7, 8, 9, 10, 11] rfl rfl [.int p0] 0 10 rfl rfl) rfl rfl hl.1 rfl (lv_room (Nat.le_of_ble_eq_true rfl)) dX10_at_2 ⟨Nat.le_of_ble_eq_true rfl, Nat.le_of_ble_eq_true rfl⟩) (fun r1 u2 H locs hw3 hP hD hS => ?_)
  obtain ⟨f04, rfl⟩ : ∃ z, z = u2 := ⟨_, rfl⟩
  try dsimp only at hw3
  have hP : va_P G vwCl [(h0, oX10 b 0 0 0 0 0 0 0 0 (-1) 0 0 (-1) 0 0 0 0 0 0), (b 1, .inl (cI, 149, .inl (fun _ => 0))), (b 15, .inl (cZ, 80, .inl (fun _ => 0))), (b 16, .inl (cI, 7, .inl (fun _ => 0))), (b 21, .inl (cZ, 80, .inl (fun _ => 0))), (b 24, .inl (cI, 80, .inl (fun _ => 0))), (b 25, .inl (cI, 6, .inl (fun _ => 0))), (b 29, .inl (cI, 6, .inl (fun _ => 0))), (b 30, .inl (cZ, 1040, .inl (fun _ => 0))), (b 31, .inl (cI, 1040, .inl (fun _ => 0))), (b 32, .inl (cI, 78, .inl (fun _ => 0))), (b 27, .inl (cI, 7, .inl f04))] H := hP
  have hD : va_D A [(h0, oX10 b 0 0 0 0 0 0 0 0 (-1) 0 0 (-1) 0 0 0 0 0 0), (b 1, .inl (cI, 149, .inl (fun _ => 0))), (b 15, .inl (cZ, 80, .inl (fun _ => 0))), (b 16, .inl (cI, 7, .inl (fun _ => 0))), (b 21, .inl (cZ, 80, .inl (fun _ => 0))), (b 24, .inl (cI, 80, .inl (fun _ => 0))), (b 25, .inl (cI, 6, .inl (fun _ => 0))), (b 29, .inl (cI, 6, .inl (fun _ => 0))), (b 30, .inl (cZ, 1040, .inl (fun _ => 0))), (b 31, .inl (cI, 1040, .inl (fun _ => 0))), (b 32, .inl (cI, 78, .inl (fun _ => 0))), (b 27, .inl (cI, 7, .inl f04))] := hD
  obtain rfl : r1 = 0 := hw3
  refine lv_if_eq (tgt := 29) hx hb dX10_at_5 (by decide) (fun c5 => ?_) (fun c5 => absurd (by decide) c5)
  refine lv_bipush (v := (-2)) hx hb dX10_at_29 (by decide) ?_
  exact hret _ _ _ _ (-2) f04 hP hD hS dX10_at_31 rfl
set_option maxHeartbeats 4000000 in
set_option maxRecDepth 100000 in
theorem f_X10_steps (l : Launch) (G : va_G) (cI cJ cZ cB cQ : ClassId) (sz : Nat) (h0 : Nat) (b : Nat → Nat) (p0 : Int32) : CI l yX10_steps (wl_ yX10_steps cX10_steps 2 (some .int)) ({ frames := 5, cells := 0, slots := 0, locals := 103 } : Room) G (TY cI cJ cZ cB cQ) [.ref h0, .int p0] [(h0, oX10 b 0 0 0 0 0 0 0 0 (-1) 0 0 0 0 0 0 0 0 0), (b 1, .inl (cI, 149, .inl (fun _ => 0))), (b 15, .inl (cZ, 80, .inl (fun _ => 0))), (b 16, .inl (cI, 7, .inl (fun _ => 0))), (b 21, .inl (cZ, 80, .inl (fun _ => 0))), (b 24, .inl (cI, 80, .inl (fun _ => 0))), (b 25, .inl (cI, 6, .inl (fun _ => 0))), (b 29, .inl (cI, 6, .inl (fun _ => 0))), (b 30, .inl (cZ, 1040, .inl (fun _ => 0))), (b 31, .inl (cI, 1040, .inl (fun _ => 0))), (b 32, .inl (cI, 78, .inl (fun _ => 0))), (b 27, .inl (cI, 7, .inl (fun _ => 0)))] sz (fun (r : Int32) (u : (Nat → Int32)) => r = (-2)) (fun u : (Nat → Int32) => [(h0, oX10 b 0 0 0 0 0 0 0 0 (-1) 0 0 (-1) 0 0 0 0 0 0), (b 1, .inl (cI, 149, .inl (fun _ => 0))), (b 15, .inl (cZ, 80, .inl (fun _ => 0))), (b 16, .inl (cI, 7, .inl (fun _ => 0))), (b 21, .inl (cZ, 80, .inl (fun _ => 0))), (b 24, .inl (cI, 80, .inl (fun _ => 0))), (b 25, .inl (cI, 6, .inl (fun _ => 0))), (b 29, .inl (cI, 6, .inl (fun _ => 0))), (b 30, .inl (cZ, 1040, .inl (fun _ => 0))), (b 31, .inl (cI, 1040, .inl (fun _ => 0))), (b 32, .inl (cI, 78, .inl (fun _ => 0))), (b 27, .inl (cI, 7, .inl u))]) 0 0 := by
  refine CI.go (cc := cX10_steps) (maxL := 2) (ret := (some .int)) (by decide) rfl (Nat.le_of_ble_eq_true rfl) ?_
  intro p e s m below meth c A ls Q hBd hret
  obtain ⟨hx, hb, hr, hml, hts, hown, hlk, hnm, hP, hK, hD, hA, hZ, hl⟩ := hBd
  have hown : s.vm.findClass RX10 = some m.cls := hown
  have hl : lv_has ls 2 [(0, .ref h0), (1, .int p0)] := hl
  have hS : va_S A s.heap s.heap [] := va_S.rf
  refine lv_aload_n hx hb dX10_steps_0 rfl (lv_at hl 0 rfl) ?_
  refine lv_iload_n hx hb dX10_steps_1 rfl (lv_at hl 1 rfl) ?_
  refine k_i (wc := [(h0, oX10 b 0 0 0 0 0 0 0 0 (-1) 0 0 0 0 0 0 0 0 0), (b 1, .inl (cI, 149, .inl (fun _ => 0))), (b 15, .inl (cZ, 80, .inl (fun _ => 0))), (b 16, .inl (cI, 7, .inl (fun _ => 0))), (b 21, .inl (cZ, 80, .inl (fun _ => 0))), (b 24, .inl (cI, 80, .inl (fun _ => 0))), (b 25, .inl (cI, 6, .inl (fun _ => 0))), (b 29, .inl (cI, 6, .inl (fun _ => 0))), (b 30, .inl (cZ, 1040, .inl (fun _ => 0))), (b 31, .inl (cI, 1040, .inl (fun _ => 0))), (b 32, .inl (cI, 78, .inl (fun _ => 0))), (b 27, .inl (cI, 7, .inl (fun _ => 0)))]) (wr := []) hP hD hS hA [0, 1, 2, 3, 4, 5, 6, 7, 8, 9, 10, 11] [] rfl rfl rfl (by decide) (va_runV (As := [.int p0]) (rest := []) ⟨hx, hb, hml, hown, hts⟩ (f_X10_asksWidow l G cI cJ cZ cB cQ _ h0 b p0) (cwV 1 hts (gV w_1567 w_1569 wp_122 w_11 w_1570) rfl rfl rfl ⟨rfl, hd_X10_asksWidow⟩ ⟨Nat.le_of_ble_eq_true rfl, Nat.le_of_ble_eq_true rfl⟩) (mV hK hZ hP hD [0, 1, 2, 3, 4, 5, 6, 7, 8, 9, 10, 11] rfl rfl [.int p0] 0 10 rfl rfl) rfl rfl hl.1 rfl (lv_room (Nat.le_of_ble_eq_true rfl)) dX10_steps_2 ⟨Nat.le_of_ble_eq_true rfl, Nat.le_of_ble_eq_true rfl⟩) (fun r1 u2 H locs hw3 hP hD hS => ?_)
  obtain ⟨f04, rfl⟩ : ∃ z, z = u2 := ⟨_, rfl⟩
  try dsimp only at hw3
  have hP : va_P G vwCl [(h0, oX10 b 0 0 0 0 0 0 0 0 (-1) 0 0 (-1) 0 0 0 0 0 0), (b 1, .inl (cI, 149, .inl (fun _ => 0))), (b 15, .inl (cZ, 80, .inl (fun _ => 0))), (b 16, .inl (cI, 7, .inl (fun _ => 0))), (b 21, .inl (cZ, 80, .inl (fun _ => 0))), (b 24, .inl (cI, 80, .inl (fun _ => 0))), (b 25, .inl (cI, 6, .inl (fun _ => 0))), (b 29, .inl (cI, 6, .inl (fun _ => 0))), (b 30, .inl (cZ, 1040, .inl (fun _ => 0))), (b 31, .inl (cI, 1040, .inl (fun _ => 0))), (b 32, .inl (cI, 78, .inl (fun _ => 0))), (b 27, .inl (cI, 7, .inl f04))] H := hP
  have hD : va_D A [(h0, oX10 b 0 0 0 0 0 0 0 0 (-1) 0 0 (-1) 0 0 0 0 0 0), (b 1, .inl (cI, 149, .inl (fun _ => 0))), (b 15, .inl (cZ, 80, .inl (fun _ => 0))), (b 16, .inl (cI, 7, .inl (fun _ => 0))), (b 21, .inl (cZ, 80, .inl (fun _ => 0))), (b 24, .inl (cI, 80, .inl (fun _ => 0))), (b 25, .inl (cI, 6, .inl (fun _ => 0))), (b 29, .inl (cI, 6, .inl (fun _ => 0))), (b 30, .inl (cZ, 1040, .inl (fun _ => 0))), (b 31, .inl (cI, 1040, .inl (fun _ => 0))), (b 32, .inl (cI, 78, .inl (fun _ => 0))), (b 27, .inl (cI, 7, .inl f04))] := hD
  obtain rfl : r1 = 0 := hw3
  refine lv_if_eq (tgt := 17) hx hb dX10_steps_5 (by decide) (fun c5 => ?_) (fun c5 => absurd (by decide) c5)
  refine lv_bipush (v := (-2)) hx hb dX10_steps_17 (by decide) ?_
  exact hret _ _ _ _ (-2) f04 hP hD hS dX10_steps_19 rfl
set_option maxHeartbeats 4000000 in
set_option maxRecDepth 100000 in
theorem f_X10_stands (l : Launch) (G : va_G) (cI cJ cZ cB cQ : ClassId) (sz : Nat) (h0 : Nat) (b : Nat → Nat) (p0 : Int32) : CI l yX10_stands (wl_ yX10_stands cX10_stands 4 (some .int)) ({ frames := 5, cells := 0, slots := 0, locals := 103 } : Room) G (TY cI cJ cZ cB cQ) [.ref h0, .int p0] [(h0, oX10 b 0 0 0 0 0 0 0 0 (-1) 0 0 0 0 0 0 0 0 0), (b 1, .inl (cI, 149, .inl (fun _ => 0))), (b 15, .inl (cZ, 80, .inl (fun _ => 0))), (b 16, .inl (cI, 7, .inl (fun _ => 0))), (b 21, .inl (cZ, 80, .inl (fun _ => 0))), (b 24, .inl (cI, 80, .inl (fun _ => 0))), (b 25, .inl (cI, 6, .inl (fun _ => 0))), (b 29, .inl (cI, 6, .inl (fun _ => 0))), (b 30, .inl (cZ, 1040, .inl (fun _ => 0))), (b 31, .inl (cI, 1040, .inl (fun _ => 0))), (b 32, .inl (cI, 78, .inl (fun _ => 0))), (b 27, .inl (cI, 7, .inl (fun _ => 0)))] sz (fun (r : Int32) (u : (Nat → Int32)) => r = (-2)) (fun u : (Nat → Int32) => [(h0, oX10 b 0 0 0 0 0 0 0 0 (-1) 0 0 (-1) 0 0 0 0 0 0), (b 1, .inl (cI, 149, .inl (fun _ => 0))), (b 15, .inl (cZ, 80, .inl (fun _ => 0))), (b 16, .inl (cI, 7, .inl (fun _ => 0))), (b 21, .inl (cZ, 80, .inl (fun _ => 0))), (b 24, .inl (cI, 80, .inl (fun _ => 0))), (b 25, .inl (cI, 6, .inl (fun _ => 0))), (b 29, .inl (cI, 6, .inl (fun _ => 0))), (b 30, .inl (cZ, 1040, .inl (fun _ => 0))), (b 31, .inl (cI, 1040, .inl (fun _ => 0))), (b 32, .inl (cI, 78, .inl (fun _ => 0))), (b 27, .inl (cI, 7, .inl u))]) 0 0 := by
  refine CI.go (cc := cX10_stands) (maxL := 4) (ret := (some .int)) (by decide) rfl (Nat.le_of_ble_eq_true rfl) ?_
  intro p e s m below meth c A ls Q hBd hret
  obtain ⟨hx, hb, hr, hml, hts, hown, hlk, hnm, hP, hK, hD, hA, hZ, hl⟩ := hBd
  have hown : s.vm.findClass RX10 = some m.cls := hown
  have hl : lv_has ls 4 [(0, .ref h0), (1, .int p0)] := hl
  have hS : va_S A s.heap s.heap [] := va_S.rf
  refine lv_aload_n hx hb dX10_stands_0 rfl (lv_at hl 0 rfl) ?_
  refine lv_iload_n hx hb dX10_stands_1 rfl (lv_at hl 1 rfl) ?_
  refine k_i (wc := [(h0, oX10 b 0 0 0 0 0 0 0 0 (-1) 0 0 0 0 0 0 0 0 0), (b 1, .inl (cI, 149, .inl (fun _ => 0))), (b 15, .inl (cZ, 80, .inl (fun _ => 0))), (b 16, .inl (cI, 7, .inl (fun _ => 0))), (b 21, .inl (cZ, 80, .inl (fun _ => 0))), (b 24, .inl (cI, 80, .inl (fun _ => 0))), (b 25, .inl (cI, 6, .inl (fun _ => 0))), (b 29, .inl (cI, 6, .inl (fun _ => 0))), (b 30, .inl (cZ, 1040, .inl (fun _ => 0))), (b 31, .inl (cI, 1040, .inl (fun _ => 0))), (b 32, .inl (cI, 78, .inl (fun _ => 0))), (b 27, .inl (cI, 7, .inl (fun _ => 0)))]) (wr := []) hP hD hS hA [0, 1, 2, 3, 4, 5, 6, 7, 8, 9, 10, 11] [] rfl rfl rfl (by decide) (va_runV (As := [.int p0]) (rest := []) ⟨hx, hb, hml, hown, hts⟩ (f_X10_asksWidow l G cI cJ cZ cB cQ _ h0 b p0) (cwV 1 hts (gV w_1567 w_1569 wp_122 w_11 w_1570) rfl rfl rfl ⟨rfl, hd_X10_asksWidow⟩ ⟨Nat.le_of_ble_eq_true rfl, Nat.le_of_ble_eq_true rfl⟩) (mV hK hZ hP hD [0, 1, 2, 3, 4, 5, 6, 7, 8, 9, 10, 11] rfl rfl [.int p0] 0 10 rfl rfl) rfl rfl hl.1 rfl (lv_room (Nat.le_of_ble_eq_true rfl)) dX10_stands_2 ⟨Nat.le_of_ble_eq_true rfl, Nat.le_of_ble_eq_true rfl⟩) (fun r1 u2 H locs hw3 hP hD hS => ?_)
  obtain ⟨f04, rfl⟩ : ∃ z, z = u2 := ⟨_, rfl⟩
  try dsimp only at hw3
  have hP : va_P G vwCl [(h0, oX10 b 0 0 0 0 0 0 0 0 (-1) 0 0 (-1) 0 0 0 0 0 0), (b 1, .inl (cI, 149, .inl (fun _ => 0))), (b 15, .inl (cZ, 80, .inl (fun _ => 0))), (b 16, .inl (cI, 7, .inl (fun _ => 0))), (b 21, .inl (cZ, 80, .inl (fun _ => 0))), (b 24, .inl (cI, 80, .inl (fun _ => 0))), (b 25, .inl (cI, 6, .inl (fun _ => 0))), (b 29, .inl (cI, 6, .inl (fun _ => 0))), (b 30, .inl (cZ, 1040, .inl (fun _ => 0))), (b 31, .inl (cI, 1040, .inl (fun _ => 0))), (b 32, .inl (cI, 78, .inl (fun _ => 0))), (b 27, .inl (cI, 7, .inl f04))] H := hP
  have hD : va_D A [(h0, oX10 b 0 0 0 0 0 0 0 0 (-1) 0 0 (-1) 0 0 0 0 0 0), (b 1, .inl (cI, 149, .inl (fun _ => 0))), (b 15, .inl (cZ, 80, .inl (fun _ => 0))), (b 16, .inl (cI, 7, .inl (fun _ => 0))), (b 21, .inl (cZ, 80, .inl (fun _ => 0))), (b 24, .inl (cI, 80, .inl (fun _ => 0))), (b 25, .inl (cI, 6, .inl (fun _ => 0))), (b 29, .inl (cI, 6, .inl (fun _ => 0))), (b 30, .inl (cZ, 1040, .inl (fun _ => 0))), (b 31, .inl (cI, 1040, .inl (fun _ => 0))), (b 32, .inl (cI, 78, .inl (fun _ => 0))), (b 27, .inl (cI, 7, .inl f04))] := hD
  obtain rfl : r1 = 0 := hw3
  refine lv_if_ne (tgt := 11) hx hb dX10_stands_5 (by decide) (fun c5 => absurd (by decide) c5) (fun c5 => ?_)
  refine lv_bipush (v := (-2)) hx hb dX10_stands_8 (by decide) ?_
  exact hret _ _ _ _ (-2) f04 hP hD hS dX10_stands_10 rfl
set_option maxHeartbeats 4000000 in
set_option maxRecDepth 100000 in
theorem f_X10_ground (l : Launch) (G : va_G) (cI cJ cZ cB cQ : ClassId) (sz : Nat) (h0 : Nat) (b : Nat → Nat) (p0 : Int32) : CI l yX10_ground (wl_ yX10_ground cX10_ground 2 (some .int)) ({ frames := 5, cells := 0, slots := 0, locals := 103 } : Room) G (TY cI cJ cZ cB cQ) [.ref h0, .int p0] [(h0, oX10 b 0 0 0 0 0 0 0 0 (-1) 0 0 0 0 0 0 0 0 0), (b 1, .inl (cI, 149, .inl (fun _ => 0))), (b 15, .inl (cZ, 80, .inl (fun _ => 0))), (b 16, .inl (cI, 7, .inl (fun _ => 0))), (b 21, .inl (cZ, 80, .inl (fun _ => 0))), (b 24, .inl (cI, 80, .inl (fun _ => 0))), (b 25, .inl (cI, 6, .inl (fun _ => 0))), (b 29, .inl (cI, 6, .inl (fun _ => 0))), (b 30, .inl (cZ, 1040, .inl (fun _ => 0))), (b 31, .inl (cI, 1040, .inl (fun _ => 0))), (b 32, .inl (cI, 78, .inl (fun _ => 0))), (b 27, .inl (cI, 7, .inl (fun _ => 0)))] sz (fun (r : Int32) (u : (Nat → Int32)) => r = (-2)) (fun u : (Nat → Int32) => [(h0, oX10 b 0 0 0 0 0 0 0 0 (-1) 0 0 (-1) 0 0 0 0 0 0), (b 1, .inl (cI, 149, .inl (fun _ => 0))), (b 15, .inl (cZ, 80, .inl (fun _ => 0))), (b 16, .inl (cI, 7, .inl (fun _ => 0))), (b 21, .inl (cZ, 80, .inl (fun _ => 0))), (b 24, .inl (cI, 80, .inl (fun _ => 0))), (b 25, .inl (cI, 6, .inl (fun _ => 0))), (b 29, .inl (cI, 6, .inl (fun _ => 0))), (b 30, .inl (cZ, 1040, .inl (fun _ => 0))), (b 31, .inl (cI, 1040, .inl (fun _ => 0))), (b 32, .inl (cI, 78, .inl (fun _ => 0))), (b 27, .inl (cI, 7, .inl u))]) 0 0 := by
  refine CI.go (cc := cX10_ground) (maxL := 2) (ret := (some .int)) (by decide) rfl (Nat.le_of_ble_eq_true rfl) ?_
  intro p e s m below meth c A ls Q hBd hret
  obtain ⟨hx, hb, hr, hml, hts, hown, hlk, hnm, hP, hK, hD, hA, hZ, hl⟩ := hBd
  have hown : s.vm.findClass RX10 = some m.cls := hown
  have hl : lv_has ls 2 [(0, .ref h0), (1, .int p0)] := hl
  have hS : va_S A s.heap s.heap [] := va_S.rf
  refine lv_aload_n hx hb dX10_ground_0 rfl (lv_at hl 0 rfl) ?_
  refine lv_iload_n hx hb dX10_ground_1 rfl (lv_at hl 1 rfl) ?_
  refine k_i (wc := [(h0, oX10 b 0 0 0 0 0 0 0 0 (-1) 0 0 0 0 0 0 0 0 0), (b 1, .inl (cI, 149, .inl (fun _ => 0))), (b 15, .inl (cZ, 80, .inl (fun _ => 0))), (b 16, .inl (cI, 7, .inl (fun _ => 0))), (b 21, .inl (cZ, 80, .inl (fun _ => 0))), (b 24, .inl (cI, 80, .inl (fun _ => 0))), (b 25, .inl (cI, 6, .inl (fun _ => 0))), (b 29, .inl (cI, 6, .inl (fun _ => 0))), (b 30, .inl (cZ, 1040, .inl (fun _ => 0))), (b 31, .inl (cI, 1040, .inl (fun _ => 0))), (b 32, .inl (cI, 78, .inl (fun _ => 0))), (b 27, .inl (cI, 7, .inl (fun _ => 0)))]) (wr := []) hP hD hS hA [0, 1, 2, 3, 4, 5, 6, 7, 8, 9, 10, 11] [] rfl rfl rfl (by decide) (va_runV (As := [.int p0]) (rest := []) ⟨hx, hb, hml, hown, hts⟩ (f_X10_asksWidow l G cI cJ cZ cB cQ _ h0 b p0) (cwV 1 hts (gV w_1567 w_1569 wp_122 w_11 w_1570) rfl rfl rfl ⟨rfl, hd_X10_asksWidow⟩ ⟨Nat.le_of_ble_eq_true rfl, Nat.le_of_ble_eq_true rfl⟩) (mV hK hZ hP hD [0, 1, 2, 3, 4, 5, 6, 7, 8, 9, 10, 11] rfl rfl [.int p0] 0 10 rfl rfl) rfl rfl hl.1 rfl (lv_room (Nat.le_of_ble_eq_true rfl)) dX10_ground_2 ⟨Nat.le_of_ble_eq_true rfl, Nat.le_of_ble_eq_true rfl⟩) (fun r1 u2 H locs hw3 hP hD hS => ?_)
  obtain ⟨f04, rfl⟩ : ∃ z, z = u2 := ⟨_, rfl⟩
  try dsimp only at hw3
  have hP : va_P G vwCl [(h0, oX10 b 0 0 0 0 0 0 0 0 (-1) 0 0 (-1) 0 0 0 0 0 0), (b 1, .inl (cI, 149, .inl (fun _ => 0))), (b 15, .inl (cZ, 80, .inl (fun _ => 0))), (b 16, .inl (cI, 7, .inl (fun _ => 0))), (b 21, .inl (cZ, 80, .inl (fun _ => 0))), (b 24, .inl (cI, 80, .inl (fun _ => 0))), (b 25, .inl (cI, 6, .inl (fun _ => 0))), (b 29, .inl (cI, 6, .inl (fun _ => 0))), (b 30, .inl (cZ, 1040, .inl (fun _ => 0))), (b 31, .inl (cI, 1040, .inl (fun _ => 0))), (b 32, .inl (cI, 78, .inl (fun _ => 0))), (b 27, .inl (cI, 7, .inl f04))] H := hP
  have hD : va_D A [(h0, oX10 b 0 0 0 0 0 0 0 0 (-1) 0 0 (-1) 0 0 0 0 0 0), (b 1, .inl (cI, 149, .inl (fun _ => 0))), (b 15, .inl (cZ, 80, .inl (fun _ => 0))), (b 16, .inl (cI, 7, .inl (fun _ => 0))), (b 21, .inl (cZ, 80, .inl (fun _ => 0))), (b 24, .inl (cI, 80, .inl (fun _ => 0))), (b 25, .inl (cI, 6, .inl (fun _ => 0))), (b 29, .inl (cI, 6, .inl (fun _ => 0))), (b 30, .inl (cZ, 1040, .inl (fun _ => 0))), (b 31, .inl (cI, 1040, .inl (fun _ => 0))), (b 32, .inl (cI, 78, .inl (fun _ => 0))), (b 27, .inl (cI, 7, .inl f04))] := hD
  obtain rfl : r1 = 0 := hw3
  refine lv_if_ne (tgt := 11) hx hb dX10_ground_5 (by decide) (fun c5 => absurd (by decide) c5) (fun c5 => ?_)
  refine lv_bipush (v := (-2)) hx hb dX10_ground_8 (by decide) ?_
  exact hret _ _ _ _ (-2) f04 hP hD hS dX10_ground_10 rfl
set_option maxHeartbeats 4000000 in
set_option maxRecDepth 100000 in
theorem f_X10_loop (l : Launch) (G : va_G) (cI cJ cZ cB cQ : ClassId) (sz : Nat) (h0 : Nat) (b : Nat → Nat) (p0 : Int32) : CI l yX10_loop (wl_ yX10_loop cX10_loop 3 (some .int)) ({ frames := 5, cells := 0, slots := 0, locals := 103 } : Room) G (TY cI cJ cZ cB cQ) [.ref h0, .int p0] [(h0, oX10 b 0 0 0 0 0 0 0 0 (-1) 0 0 0 0 0 0 0 0 0), (b 1, .inl (cI, 149, .inl (fun _ => 0))), (b 15, .inl (cZ, 80, .inl (fun _ => 0))), (b 16, .inl (cI, 7, .inl (fun _ => 0))), (b 21, .inl (cZ, 80, .inl (fun _ => 0))), (b 24, .inl (cI, 80, .inl (fun _ => 0))), (b 25, .inl (cI, 6, .inl (fun _ => 0))), (b 29, .inl (cI, 6, .inl (fun _ => 0))), (b 30, .inl (cZ, 1040, .inl (fun _ => 0))), (b 31, .inl (cI, 1040, .inl (fun _ => 0))), (b 32, .inl (cI, 78, .inl (fun _ => 0))), (b 27, .inl (cI, 7, .inl (fun _ => 0)))] sz (fun (r : Int32) (u : (Nat → Int32)) => r = (-2)) (fun u : (Nat → Int32) => [(h0, oX10 b 0 0 0 0 0 0 0 0 (-1) 0 0 (-1) 0 0 0 0 0 0), (b 1, .inl (cI, 149, .inl (fun _ => 0))), (b 15, .inl (cZ, 80, .inl (fun _ => 0))), (b 16, .inl (cI, 7, .inl (fun _ => 0))), (b 21, .inl (cZ, 80, .inl (fun _ => 0))), (b 24, .inl (cI, 80, .inl (fun _ => 0))), (b 25, .inl (cI, 6, .inl (fun _ => 0))), (b 29, .inl (cI, 6, .inl (fun _ => 0))), (b 30, .inl (cZ, 1040, .inl (fun _ => 0))), (b 31, .inl (cI, 1040, .inl (fun _ => 0))), (b 32, .inl (cI, 78, .inl (fun _ => 0))), (b 27, .inl (cI, 7, .inl u))]) 0 0 := by
  refine CI.go (cc := cX10_loop) (maxL := 3) (ret := (some .int)) (by decide) rfl (Nat.le_of_ble_eq_true rfl) ?_
  intro p e s m below meth c A ls Q hBd hret
  obtain ⟨hx, hb, hr, hml, hts, hown, hlk, hnm, hP, hK, hD, hA, hZ, hl⟩ := hBd
  have hown : s.vm.findClass RX10 = some m.cls := hown
  have hl : lv_has ls 3 [(0, .ref h0), (1, .int p0)] := hl
  have hS : va_S A s.heap s.heap [] := va_S.rf
  refine lv_aload_n hx hb dX10_loop_0 rfl (lv_at hl 0 rfl) ?_
  refine lv_iload_n hx hb dX10_loop_1 rfl (lv_at hl 1 rfl) ?_
  refine k_i (wc := [(h0, oX10 b 0 0 0 0 0 0 0 0 (-1) 0 0 0 0 0 0 0 0 0), (b 1, .inl (cI, 149, .inl (fun _ => 0))), (b 15, .inl (cZ, 80, .inl (fun _ => 0))), (b 16, .inl (cI, 7, .inl (fun _ => 0))), (b 21, .inl (cZ, 80, .inl (fun _ => 0))), (b 24, .inl (cI, 80, .inl (fun _ => 0))), (b 25, .inl (cI, 6, .inl (fun _ => 0))), (b 29, .inl (cI, 6, .inl (fun _ => 0))), (b 30, .inl (cZ, 1040, .inl (fun _ => 0))), (b 31, .inl (cI, 1040, .inl (fun _ => 0))), (b 32, .inl (cI, 78, .inl (fun _ => 0))), (b 27, .inl (cI, 7, .inl (fun _ => 0)))]) (wr := []) hP hD hS hA [0, 1, 2, 3, 4, 5, 6, 7, 8, 9, 10, 11] [] rfl rfl rfl (by decide) (va_runV (As := [.int p0]) (rest := []) ⟨hx, hb, hml, hown, hts⟩ (f_X10_asksWidow l G cI cJ cZ cB cQ _ h0 b p0) (cwV 1 hts (gV w_1567 w_1569 wp_122 w_11 w_1570) rfl rfl rfl ⟨rfl, hd_X10_asksWidow⟩ ⟨Nat.le_of_ble_eq_true rfl, Nat.le_of_ble_eq_true rfl⟩) (mV hK hZ hP hD [0, 1, 2, 3, 4, 5, 6, 7, 8, 9, 10, 11] rfl rfl [.int p0] 0 10 rfl rfl) rfl rfl hl.1 rfl (lv_room (Nat.le_of_ble_eq_true rfl)) dX10_loop_2 ⟨Nat.le_of_ble_eq_true rfl, Nat.le_of_ble_eq_true rfl⟩) (fun r1 u2 H locs hw3 hP hD hS => ?_)
  obtain ⟨f04, rfl⟩ : ∃ z, z = u2 := ⟨_, rfl⟩
  try dsimp only at hw3
  have hP : va_P G vwCl [(h0, oX10 b 0 0 0 0 0 0 0 0 (-1) 0 0 (-1) 0 0 0 0 0 0), (b 1, .inl (cI, 149, .inl (fun _ => 0))), (b 15, .inl (cZ, 80, .inl (fun _ => 0))), (b 16, .inl (cI, 7, .inl (fun _ => 0))), (b 21, .inl (cZ, 80, .inl (fun _ => 0))), (b 24, .inl (cI, 80, .inl (fun _ => 0))), (b 25, .inl (cI, 6, .inl (fun _ => 0))), (b 29, .inl (cI, 6, .inl (fun _ => 0))), (b 30, .inl (cZ, 1040, .inl (fun _ => 0))), (b 31, .inl (cI, 1040, .inl (fun _ => 0))), (b 32, .inl (cI, 78, .inl (fun _ => 0))), (b 27, .inl (cI, 7, .inl f04))] H := hP
  have hD : va_D A [(h0, oX10 b 0 0 0 0 0 0 0 0 (-1) 0 0 (-1) 0 0 0 0 0 0), (b 1, .inl (cI, 149, .inl (fun _ => 0))), (b 15, .inl (cZ, 80, .inl (fun _ => 0))), (b 16, .inl (cI, 7, .inl (fun _ => 0))), (b 21, .inl (cZ, 80, .inl (fun _ => 0))), (b 24, .inl (cI, 80, .inl (fun _ => 0))), (b 25, .inl (cI, 6, .inl (fun _ => 0))), (b 29, .inl (cI, 6, .inl (fun _ => 0))), (b 30, .inl (cZ, 1040, .inl (fun _ => 0))), (b 31, .inl (cI, 1040, .inl (fun _ => 0))), (b 32, .inl (cI, 78, .inl (fun _ => 0))), (b 27, .inl (cI, 7, .inl f04))] := hD
  obtain rfl : r1 = 0 := hw3
  refine lv_if_ne (tgt := 11) hx hb dX10_loop_5 (by decide) (fun c5 => absurd (by decide) c5) (fun c5 => ?_)
  refine lv_bipush (v := (-2)) hx hb dX10_loop_8 (by decide) ?_
  exact hret _ _ _ _ (-2) f04 hP hD hS dX10_loop_10 rfl
set_option maxHeartbeats 4000000 in
set_option maxRecDepth 100000 in
theorem f_X10_haunt (l : Launch) (G : va_G) (cI cJ cZ cB cQ : ClassId) (sz : Nat) (h0 : Nat) (b : Nat → Nat) (p0 : Int32) : CI l yX10_haunt (wl_ yX10_haunt cX10_haunt 4 (some .int)) ({ frames := 5, cells := 0, slots := 0, locals := 103 } : Room) G (TY cI cJ cZ cB cQ) [.ref h0, .int p0] [(h0, oX10 b 0 0 0 0 0 0 0 0 (-1) 0 0 0 0 0 0 0 0 0), (b 1, .inl (cI, 149, .inl (fun _ => 0))), (b 15, .inl (cZ, 80, .inl (fun _ => 0))), (b 16, .inl (cI, 7, .inl (fun _ => 0))), (b 21, .inl (cZ, 80, .inl (fun _ => 0))), (b 24, .inl (cI, 80, .inl (fun _ => 0))), (b 25, .inl (cI, 6, .inl (fun _ => 0))), (b 29, .inl (cI, 6, .inl (fun _ => 0))), (b 30, .inl (cZ, 1040, .inl (fun _ => 0))), (b 31, .inl (cI, 1040, .inl (fun _ => 0))), (b 32, .inl (cI, 78, .inl (fun _ => 0))), (b 27, .inl (cI, 7, .inl (fun _ => 0)))] sz (fun (r : Int32) (u : (Nat → Int32)) => r = (-2)) (fun u : (Nat → Int32) => [(h0, oX10 b 0 0 0 0 0 0 0 0 (-1) 0 0 (-1) 0 0 0 0 0 0), (b 1, .inl (cI, 149, .inl (fun _ => 0))), (b 15, .inl (cZ, 80, .inl (fun _ => 0))), (b 16, .inl (cI, 7, .inl (fun _ => 0))), (b 21, .inl (cZ, 80, .inl (fun _ => 0))), (b 24, .inl (cI, 80, .inl (fun _ => 0))), (b 25, .inl (cI, 6, .inl (fun _ => 0))), (b 29, .inl (cI, 6, .inl (fun _ => 0))), (b 30, .inl (cZ, 1040, .inl (fun _ => 0))), (b 31, .inl (cI, 1040, .inl (fun _ => 0))), (b 32, .inl (cI, 78, .inl (fun _ => 0))), (b 27, .inl (cI, 7, .inl u))]) 0 0 := by
  refine CI.go (cc := cX10_haunt) (maxL := 4) (ret := (some .int)) (by decide) rfl (Nat.le_of_ble_eq_true rfl) ?_
  intro p e s m below meth c A ls Q hBd hret
  obtain ⟨hx, hb, hr, hml, hts, hown, hlk, hnm, hP, hK, hD, hA, hZ, hl⟩ := hBd
  have hown : s.vm.findClass RX10 = some m.cls := hown
  have hl : lv_has ls 4 [(0, .ref h0), (1, .int p0)] := hl
  have hS : va_S A s.heap s.heap [] := va_S.rf
  refine lv_aload_n hx hb dX10_haunt_0 rfl (lv_at hl 0 rfl) ?_
  refine lv_iload_n hx hb dX10_haunt_1 rfl (lv_at hl 1 rfl) ?_
  refine k_i (wc := [(h0, oX10 b 0 0 0 0 0 0 0 0 (-1) 0 0 0 0 0 0 0 0 0), (b 1, .inl (cI, 149, .inl (fun _ => 0))), (b 15, .inl (cZ, 80, .inl (fun _ => 0))), (b 16, .inl (cI, 7, .inl (fun _ => 0))), (b 21, .inl (cZ, 80, .inl (fun _ => 0))), (b 24, .inl (cI, 80, .inl (fun _ => 0))), (b 25, .inl (cI, 6, .inl (fun _ => 0))), (b 29, .inl (cI, 6, .inl (fun _ => 0))), (b 30, .inl (cZ, 1040, .inl (fun _ => 0))), (b 31, .inl (cI, 1040, .inl (fun _ => 0))), (b 32, .inl (cI, 78, .inl (fun _ => 0))), (b 27, .inl (cI, 7, .inl (fun _ => 0)))]) (wr := []) hP hD hS hA [0, 1, 2, 3, 4, 5, 6, 7, 8, 9, 10, 11] [] rfl rfl rfl (by decide) (va_runV (As := [.int p0]) (rest := []) ⟨hx, hb, hml, hown, hts⟩ (f_X10_asksWidow l G cI cJ cZ cB cQ _ h0 b p0) (cwV 1 hts (gV w_1567 w_1569 wp_122 w_11 w_1570) rfl rfl rfl ⟨rfl, hd_X10_asksWidow⟩ ⟨Nat.le_of_ble_eq_true rfl, Nat.le_of_ble_eq_true rfl⟩) (mV hK hZ hP hD [0, 1, 2, 3, 4, 5, 6, 7, 8, 9, 10, 11] rfl rfl [.int p0] 0 10 rfl rfl) rfl rfl hl.1 rfl (lv_room (Nat.le_of_ble_eq_true rfl)) dX10_haunt_2 ⟨Nat.le_of_ble_eq_true rfl, Nat.le_of_ble_eq_true rfl⟩) (fun r1 u2 H locs hw3 hP hD hS => ?_)
  obtain ⟨f04, rfl⟩ : ∃ z, z = u2 := ⟨_, rfl⟩
  try dsimp only at hw3
  have hP : va_P G vwCl [(h0, oX10 b 0 0 0 0 0 0 0 0 (-1) 0 0 (-1) 0 0 0 0 0 0), (b 1, .inl (cI, 149, .inl (fun _ => 0))), (b 15, .inl (cZ, 80, .inl (fun _ => 0))), (b 16, .inl (cI, 7, .inl (fun _ => 0))), (b 21, .inl (cZ, 80, .inl (fun _ => 0))), (b 24, .inl (cI, 80, .inl (fun _ => 0))), (b 25, .inl (cI, 6, .inl (fun _ => 0))), (b 29, .inl (cI, 6, .inl (fun _ => 0))), (b 30, .inl (cZ, 1040, .inl (fun _ => 0))), (b 31, .inl (cI, 1040, .inl (fun _ => 0))), (b 32, .inl (cI, 78, .inl (fun _ => 0))), (b 27, .inl (cI, 7, .inl f04))] H := hP
  have hD : va_D A [(h0, oX10 b 0 0 0 0 0 0 0 0 (-1) 0 0 (-1) 0 0 0 0 0 0), (b 1, .inl (cI, 149, .inl (fun _ => 0))), (b 15, .inl (cZ, 80, .inl (fun _ => 0))), (b 16, .inl (cI, 7, .inl (fun _ => 0))), (b 21, .inl (cZ, 80, .inl (fun _ => 0))), (b 24, .inl (cI, 80, .inl (fun _ => 0))), (b 25, .inl (cI, 6, .inl (fun _ => 0))), (b 29, .inl (cI, 6, .inl (fun _ => 0))), (b 30, .inl (cZ, 1040, .inl (fun _ => 0))), (b 31, .inl (cI, 1040, .inl (fun _ => 0))), (b 32, .inl (cI, 78, .inl (fun _ => 0))), (b 27, .inl (cI, 7, .inl f04))] := hD
  obtain rfl : r1 = 0 := hw3
  refine lv_if_ne (tgt := 11) hx hb dX10_haunt_5 (by decide) (fun c5 => absurd (by decide) c5) (fun c5 => ?_)
  refine lv_bipush (v := (-2)) hx hb dX10_haunt_8 (by decide) ?_
  exact hret _ _ _ _ (-2) f04 hP hD hS dX10_haunt_10 rfl
set_option maxHeartbeats 4000000 in
set_option maxRecDepth 100000 in
theorem f_X10_evening (l : Launch) (G : va_G) (cI cJ cZ cB cQ : ClassId) (sz : Nat) (h0 : Nat) (b : Nat → Nat) (p0 : Int32) : CI l yX10_evening (wl_ yX10_evening cX10_evening 4 (some .int)) ({ frames := 5, cells := 0, slots := 0, locals := 103 } : Room) G (TY cI cJ cZ cB cQ) [.ref h0, .int p0] [(h0, oX10 b 0 0 0 0 0 0 0 0 (-1) 0 0 0 0 0 0 0 0 0), (b 1, .inl (cI, 149, .inl (fun _ => 0))), (b 15, .inl (cZ, 80, .inl (fun _ => 0))), (b 16, .inl (cI, 7, .inl (fun _ => 0))), (b 21, .inl (cZ, 80, .inl (fun _ => 0))), (b 24, .inl (cI, 80, .inl (fun _ => 0))), (b 25, .inl (cI, 6, .inl (fun _ => 0))), (b 29, .inl (cI, 6, .inl (fun _ => 0))), (b 30, .inl (cZ, 1040, .inl (fun _ => 0))), (b 31, .inl (cI, 1040, .inl (fun _ => 0))), (b 32, .inl (cI, 78, .inl (fun _ => 0))), (b 27, .inl (cI, 7, .inl (fun _ => 0)))] sz (fun (r : Int32) (u : (Nat → Int32)) => r = (-2)) (fun u : (Nat → Int32) => [(h0, oX10 b 0 0 0 0 0 0 0 0 (-1) 0 0 (-1) 0 0 0 0 0 0), (b 1, .inl (cI, 149, .inl (fun _ => 0))), (b 15, .inl (cZ, 80, .inl (fun _ => 0))), (b 16, .inl (cI, 7, .inl (fun _ => 0))), (b 21, .inl (cZ, 80, .inl (fun _ => 0))), (b 24, .inl (cI, 80, .inl (fun _ => 0))), (b 25, .inl (cI, 6, .inl (fun _ => 0))), (b 29, .inl (cI, 6, .inl (fun _ => 0))), (b 30, .inl (cZ, 1040, .inl (fun _ => 0))), (b 31, .inl (cI, 1040, .inl (fun _ => 0))), (b 32, .inl (cI, 78, .inl (fun _ => 0))), (b 27, .inl (cI, 7, .inl u))]) 0 0 := by
  refine CI.go (cc := cX10_evening) (maxL := 4) (ret := (some .int)) (by decide) rfl (Nat.le_of_ble_eq_true rfl) ?_
  intro p e s m below meth c A ls Q hBd hret
  obtain ⟨hx, hb, hr, hml, hts, hown, hlk, hnm, hP, hK, hD, hA, hZ, hl⟩ := hBd
  have hown : s.vm.findClass RX10 = some m.cls := hown
  have hl : lv_has ls 4 [(0, .ref h0), (1, .int p0)] := hl
  have hS : va_S A s.heap s.heap [] := va_S.rf
  refine lv_aload_n hx hb dX10_evening_0 rfl (lv_at hl 0 rfl) ?_
  refine lv_iload_n hx hb dX10_evening_1 rfl (lv_at hl 1 rfl) ?_
  refine k_i (wc := [(h0, oX10 b 0 0 0 0 0 0 0 0 (-1) 0 0 0 0 0 0 0 0 0), (b 1, .inl (cI, 149, .inl (fun _ => 0))), (b 15, .inl (cZ, 80, .inl (fun _ => 0))), (b 16, .inl (cI, 7, .inl (fun _ => 0))), (b 21, .inl (cZ, 80, .inl (fun _ => 0))), (b 24, .inl (cI, 80, .inl (fun _ => 0))), (b 25, .inl (cI, 6, .inl (fun _ => 0))), (b 29, .inl (cI, 6, .inl (fun _ => 0))), (b 30, .inl (cZ, 1040, .inl (fun _ => 0))), (b 31, .inl (cI, 1040, .inl (fun _ => 0))), (b 32, .inl (cI, 78, .inl (fun _ => 0))), (b 27, .inl (cI, 7, .inl (fun _ => 0)))]) (wr := []) hP hD hS hA [0, 1, 2, 3, 4, 5, 6, 7, 8, 9, 10, 11] [] rfl rfl rfl (by decide) (va_runV (As := [.int p0]) (rest := []) ⟨hx, hb, hml, hown, hts⟩ (f_X10_asksYear l G cI cJ cZ cB cQ _ h0 b p0) (cwV 1 hts (gV w_1620 w_1622 wp_128 w_11 w_1623) rfl rfl rfl ⟨rfl, hd_X10_asksYear⟩ ⟨Nat.le_of_ble_eq_true rfl, Nat.le_of_ble_eq_true rfl⟩) (mV hK hZ hP hD [0, 1, 2, 3, 4, 5, 6, 7, 8, 9, 10, 11] rfl rfl [.int p0] 0 10 rfl rfl) rfl rfl hl.1 rfl (lv_room (Nat.le_of_ble_eq_true rfl)) dX10_evening_2 ⟨Nat.le_of_ble_eq_true rfl, Nat.le_of_ble_eq_true rfl⟩) (fun r1 u2 H locs hw3 hP hD hS => ?_)
  obtain ⟨f04, rfl⟩ : ∃ z, z = u2 := ⟨_, rfl⟩
  try dsimp only at hw3
  have hP : va_P G vwCl [(h0, oX10 b 0 0 0 0 0 0 0 0 (-1) 0 0 (-1) 0 0 0 0 0 0), (b 1, .inl (cI, 149, .inl (fun _ => 0))), (b 15, .inl (cZ, 80, .inl (fun _ => 0))), (b 16, .inl (cI, 7, .inl (fun _ => 0))), (b 21, .inl (cZ, 80, .inl (fun _ => 0))), (b 24, .inl (cI, 80, .inl (fun _ => 0))), (b 25, .inl (cI, 6, .inl (fun _ => 0))), (b 29, .inl (cI, 6, .inl (fun _ => 0))), (b 30, .inl (cZ, 1040, .inl (fun _ => 0))), (b 31, .inl (cI, 1040, .inl (fun _ => 0))), (b 32, .inl (cI, 78, .inl (fun _ => 0))), (b 27, .inl (cI, 7, .inl f04))] H := hP
  have hD : va_D A [(h0, oX10 b 0 0 0 0 0 0 0 0 (-1) 0 0 (-1) 0 0 0 0 0 0), (b 1, .inl (cI, 149, .inl (fun _ => 0))), (b 15, .inl (cZ, 80, .inl (fun _ => 0))), (b 16, .inl (cI, 7, .inl (fun _ => 0))), (b 21, .inl (cZ, 80, .inl (fun _ => 0))), (b 24, .inl (cI, 80, .inl (fun _ => 0))), (b 25, .inl (cI, 6, .inl (fun _ => 0))), (b 29, .inl (cI, 6, .inl (fun _ => 0))), (b 30, .inl (cZ, 1040, .inl (fun _ => 0))), (b 31, .inl (cI, 1040, .inl (fun _ => 0))), (b 32, .inl (cI, 78, .inl (fun _ => 0))), (b 27, .inl (cI, 7, .inl f04))] := hD
  obtain rfl : r1 = 0 := hw3
  refine lv_if_eq (tgt := 16) hx hb dX10_evening_5 (by decide) (fun c5 => ?_) (fun c5 => absurd (by decide) c5)
  refine lv_bipush (v := (-2)) hx hb dX10_evening_16 (by decide) ?_
  exact hret _ _ _ _ (-2) f04 hP hD hS dX10_evening_18 rfl
set_option maxHeartbeats 4000000 in
set_option maxRecDepth 100000 in
theorem f_X10_visits (l : Launch) (G : va_G) (cI cJ cZ cB cQ : ClassId) (sz : Nat) (h0 : Nat) (b : Nat → Nat) (p0 : Int32) (p1 : Int32) : CI l yX10_visits (wl_ yX10_visits cX10_visits 3 (some .int)) ({ frames := 5, cells := 0, slots := 0, locals := 103 } : Room) G (TY cI cJ cZ cB cQ) [.ref h0, .int p0, .int p1] [(h0, oX10 b 0 0 0 0 0 0 0 0 (-1) 0 0 0 0 0 0 0 0 0), (b 1, .inl (cI, 149, .inl (fun _ => 0))), (b 15, .inl (cZ, 80, .inl (fun _ => 0))), (b 16, .inl (cI, 7, .inl (fun _ => 0))), (b 21, .inl (cZ, 80, .inl (fun _ => 0))), (b 24, .inl (cI, 80, .inl (fun _ => 0))), (b 25, .inl (cI, 6, .inl (fun _ => 0))), (b 29, .inl (cI, 6, .inl (fun _ => 0))), (b 30, .inl (cZ, 1040, .inl (fun _ => 0))), (b 31, .inl (cI, 1040, .inl (fun _ => 0))), (b 32, .inl (cI, 78, .inl (fun _ => 0))), (b 27, .inl (cI, 7, .inl (fun _ => 0)))] sz (fun (r : Int32) (u : (Nat → Int32)) => r = (-2)) (fun u : (Nat → Int32) => [(h0, oX10 b 0 0 0 0 0 0 0 0 (-1) 0 0 (-1) 0 0 0 0 0 0), (b 1, .inl (cI, 149, .inl (fun _ => 0))), (b 15, .inl (cZ, 80, .inl (fun _ => 0))), (b 16, .inl (cI, 7, .inl (fun _ => 0))), (b 21, .inl (cZ, 80, .inl (fun _ => 0))), (b 24, .inl (cI, 80, .inl (fun _ => 0))), (b 25, .inl (cI, 6, .inl (fun _ => 0))), (b 29, .inl (cI, 6, .inl (fun _ => 0))), (b 30, .inl (cZ, 1040, .inl (fun _ => 0))), (b 31, .inl (cI, 1040, .inl (fun _ => 0))), (b 32, .inl (cI, 78, .inl (fun _ => 0))), (b 27, .inl (cI, 7, .inl u))]) 0 0 := by
  refine CI.go (cc := cX10_visits) (maxL := 3) (ret := (some .int)) (by decide) rfl (Nat.le_of_ble_eq_true rfl) ?_
  intro p e s m below meth c A ls Q hBd hret
  obtain ⟨hx, hb, hr, hml, hts, hown, hlk, hnm, hP, hK, hD, hA, hZ, hl⟩ := hBd
  have hown : s.vm.findClass RX10 = some m.cls := hown
  have hl : lv_has ls 3 [(0, .ref h0), (1, .int p0), (2, .int p1)] := hl
  have hS : va_S A s.heap s.heap [] := va_S.rf
  refine lv_aload_n hx hb dX10_visits_0 rfl (lv_at hl 0 rfl) ?_
  refine lv_iload_n hx hb dX10_visits_1 rfl (lv_at hl 1 rfl) ?_
  refine k_i (wc := [(h0, oX10 b 0 0 0 0 0 0 0 0 (-1) 0 0 0 0 0 0 0 0 0), (b 1, .inl (cI, 149, .inl (fun _ => 0))), (b 15, .inl (cZ, 80, .inl (fun _ => 0))), (b 16, .inl (cI, 7, .inl (fun _ => 0))), (b 21, .inl (cZ, 80, .inl (fun _ => 0))), (b 24, .inl (cI, 80, .inl (fun _ => 0))), (b 25, .inl (cI, 6, .inl (fun _ => 0))), (b 29, .inl (cI, 6, .inl (fun _ => 0))), (b 30, .inl (cZ, 1040, .inl (fun _ => 0))), (b 31, .inl (cI, 1040, .inl (fun _ => 0))), (b 32, .inl (cI, 78, .inl (fun _ => 0))), (b 27, .inl (cI, 7, .inl (fun _ => 0)))]) (wr := []) hP hD hS hA [0, 1, 2, 3, 4, 5, 6, 7, 8, 9, 10, 11] [] rfl rfl rfl (by decide) (va_runV (As := [.int p0]) (rest := []) ⟨hx, hb, hml, hown, hts⟩ (f_X10_asksWidow l G cI cJ cZ cB cQ _ h0 b p0) (cwV 1 hts (gV w_1567 w_1569 wp_122 w_11 w_1570) rfl rfl rfl ⟨rfl, hd_X10_asksWidow⟩ ⟨Nat.le_of_ble_eq_true rfl, Nat.le_of_ble_eq_true rfl⟩) (mV hK hZ hP hD [0, 1, 2, 3, 4, 5, 6, 7, 8, 9, 10, 11] rfl rfl [.int p0] 0 10 rfl rfl) rfl rfl hl.1 rfl (lv_room (Nat.le_of_ble_eq_true rfl)) dX10_visits_2 ⟨Nat.le_of_ble_eq_true rfl, Nat.le_of_ble_eq_true rfl⟩) (fun r1 u2 H locs hw3 hP hD hS => ?_)
  obtain ⟨f04, rfl⟩ : ∃ z, z = u2 := ⟨_, rfl⟩
  try dsimp only at hw3
  have hP : va_P G vwCl [(h0, oX10 b 0 0 0 0 0 0 0 0 (-1) 0 0 (-1) 0 0 0 0 0 0), (b 1, .inl (cI, 149, .inl (fun _ => 0))), (b 15, .inl (cZ, 80, .inl (fun _ => 0))), (b 16, .inl (cI, 7, .inl (fun _ => 0))), (b 21, .inl (cZ, 80, .inl (fun _ => 0))), (b 24, .inl (cI, 80, .inl (fun _ => 0))), (b 25, .inl (cI, 6, .inl (fun _ => 0))), (b 29, .inl (cI, 6, .inl (fun _ => 0))), (b 30, .inl (cZ, 1040, .inl (fun _ => 0))), (b 31, .inl (cI, 1040, .inl (fun _ => 0))), (b 32, .inl (cI, 78, .inl (fun _ => 0))), (b 27, .inl (cI, 7, .inl f04))] H := hP
  have hD : va_D A [(h0, oX10 b 0 0 0 0 0 0 0 0 (-1) 0 0 (-1) 0 0 0 0 0 0), (b 1, .inl (cI, 149, .inl (fun _ => 0))), (b 15, .inl (cZ, 80, .inl (fun _ => 0))), (b 16, .inl (cI, 7, .inl (fun _ => 0))), (b 21, .inl (cZ, 80, .inl (fun _ => 0))), (b 24, .inl (cI, 80, .inl (fun _ => 0))), (b 25, .inl (cI, 6, .inl (fun _ => 0))), (b 29, .inl (cI, 6, .inl (fun _ => 0))), (b 30, .inl (cZ, 1040, .inl (fun _ => 0))), (b 31, .inl (cI, 1040, .inl (fun _ => 0))), (b 32, .inl (cI, 78, .inl (fun _ => 0))), (b 27, .inl (cI, 7, .inl f04))] := hD
  obtain rfl : r1 = 0 := hw3
  refine lv_if_eq (tgt := 26) hx hb dX10_visits_5 (by decide) (fun c5 => ?_) (fun c5 => absurd (by decide) c5)
  refine lv_bipush (v := (-2)) hx hb dX10_visits_26 (by decide) ?_
  exact hret _ _ _ _ (-2) f04 hP hD hS dX10_visits_28 rfl
set_option maxHeartbeats 4000000 in
set_option maxRecDepth 100000 in
theorem f_X10_straight (l : Launch) (G : va_G) (cI cJ cZ cB cQ : ClassId) (sz : Nat) (h0 : Nat) (b : Nat → Nat) (p0 : Int32) : CI l yX10_straight (wl_ yX10_straight cX10_straight 3 (some .int)) ({ frames := 5, cells := 0, slots := 0, locals := 103 } : Room) G (TY cI cJ cZ cB cQ) [.ref h0, .int p0] [(h0, oX10 b 0 0 0 0 0 0 0 0 (-1) 0 0 0 0 0 0 0 0 0), (b 1, .inl (cI, 149, .inl (fun _ => 0))), (b 15, .inl (cZ, 80, .inl (fun _ => 0))), (b 16, .inl (cI, 7, .inl (fun _ => 0))), (b 21, .inl (cZ, 80, .inl (fun _ => 0))), (b 24, .inl (cI, 80, .inl (fun _ => 0))), (b 25, .inl (cI, 6, .inl (fun _ => 0))), (b 29, .inl (cI, 6, .inl (fun _ => 0))), (b 30, .inl (cZ, 1040, .inl (fun _ => 0))), (b 31, .inl (cI, 1040, .inl (fun _ => 0))), (b 32, .inl (cI, 78, .inl (fun _ => 0))), (b 27, .inl (cI, 7, .inl (fun _ => 0)))] sz (fun (r : Int32) (u : (Nat → Int32)) => r = (-2)) (fun u : (Nat → Int32) => [(h0, oX10 b 0 0 0 0 0 0 0 0 (-1) 0 0 (-1) 0 0 0 0 0 0), (b 1, .inl (cI, 149, .inl (fun _ => 0))), (b 15, .inl (cZ, 80, .inl (fun _ => 0))), (b 16, .inl (cI, 7, .inl (fun _ => 0))), (b 21, .inl (cZ, 80, .inl (fun _ => 0))), (b 24, .inl (cI, 80, .inl (fun _ => 0))), (b 25, .inl (cI, 6, .inl (fun _ => 0))), (b 29, .inl (cI, 6, .inl (fun _ => 0))), (b 30, .inl (cZ, 1040, .inl (fun _ => 0))), (b 31, .inl (cI, 1040, .inl (fun _ => 0))), (b 32, .inl (cI, 78, .inl (fun _ => 0))), (b 27, .inl (cI, 7, .inl u))]) 0 0 := by
  refine CI.go (cc := cX10_straight) (maxL := 3) (ret := (some .int)) (by decide) rfl (Nat.le_of_ble_eq_true rfl) ?_
  intro p e s m below meth c A ls Q hBd hret
  obtain ⟨hx, hb, hr, hml, hts, hown, hlk, hnm, hP, hK, hD, hA, hZ, hl⟩ := hBd
  have hown : s.vm.findClass RX10 = some m.cls := hown
  have hl : lv_has ls 3 [(0, .ref h0), (1, .int p0)] := hl
  have hS : va_S A s.heap s.heap [] := va_S.rf
  refine lv_aload_n hx hb dX10_straight_0 rfl (lv_at hl 0 rfl) ?_
  refine lv_iload_n hx hb dX10_straight_1 rfl (lv_at hl 1 rfl) ?_
  refine k_i (wc := [(h0, oX10 b 0 0 0 0 0 0 0 0 (-1) 0 0 0 0 0 0 0 0 0), (b 1, .inl (cI, 149, .inl (fun _ => 0))), (b 15, .inl (cZ, 80, .inl (fun _ => 0))), (b 16, .inl (cI, 7, .inl (fun _ => 0))), (b 21, .inl (cZ, 80, .inl (fun _ => 0))), (b 24, .inl (cI, 80, .inl (fun _ => 0))), (b 25, .inl (cI, 6, .inl (fun _ => 0))), (b 29, .inl (cI, 6, .inl (fun _ => 0))), (b 30, .inl (cZ, 1040, .inl (fun _ => 0))), (b 31, .inl (cI, 1040, .inl (fun _ => 0))), (b 32, .inl (cI, 78, .inl (fun _ => 0))), (b 27, .inl (cI, 7, .inl (fun _ => 0)))]) (wr := []) hP hD hS hA [0, 1, 2, 3, 4, 5, 6, 7, 8, 9, 10, 11] [] rfl rfl rfl (by decide) (va_runV (As := [.int p0]) (rest := []) ⟨hx, hb, hml, hown, hts⟩ (f_X10_asksWidow l G cI cJ cZ cB cQ _ h0 b p0) (cwV 1 hts (gV w_1567 w_1569 wp_122 w_11 w_1570) rfl rfl rfl ⟨rfl, hd_X10_asksWidow⟩ ⟨Nat.le_of_ble_eq_true rfl, Nat.le_of_ble_eq_true rfl⟩) (mV hK hZ hP hD [0, 1, 2, 3, 4, 5, 6, 7, 8, 9, 10, 11] rfl rfl [.int p0] 0 10 rfl rfl) rfl rfl hl.1 rfl (lv_room (Nat.le_of_ble_eq_true rfl)) dX10_straight_2 ⟨Nat.le_of_ble_eq_true rfl, Nat.le_of_ble_eq_true rfl⟩) (fun r1 u2 H locs hw3 hP hD hS => ?_)
  obtain ⟨f04, rfl⟩ : ∃ z, z = u2 := ⟨_, rfl⟩
  try dsimp only at hw3
  have hP : va_P G vwCl [(h0, oX10 b 0 0 0 0 0 0 0 0 (-1) 0 0 (-1) 0 0 0 0 0 0), (b 1, .inl (cI, 149, .inl (fun _ => 0))), (b 15, .inl (cZ, 80, .inl (fun _ => 0))), (b 16, .inl (cI, 7, .inl (fun _ => 0))), (b 21, .inl (cZ, 80, .inl (fun _ => 0))), (b 24, .inl (cI, 80, .inl (fun _ => 0))), (b 25, .inl (cI, 6, .inl (fun _ => 0))), (b 29, .inl (cI, 6, .inl (fun _ => 0))), (b 30, .inl (cZ, 1040, .inl (fun _ => 0))), (b 31, .inl (cI, 1040, .inl (fun _ => 0))), (b 32, .inl (cI, 78, .inl (fun _ => 0))), (b 27, .inl (cI, 7, .inl f04))] H := hP
  have hD : va_D A [(h0, oX10 b 0 0 0 0 0 0 0 0 (-1) 0 0 (-1) 0 0 0 0 0 0), (b 1, .inl (cI, 149, .inl (fun _ => 0))), (b 15, .inl (cZ, 80, .inl (fun _ => 0))), (b 16, .inl (cI, 7, .inl (fun _ => 0))), (b 21, .inl (cZ, 80, .inl (fun _ => 0))), (b 24, .inl (cI, 80, .inl (fun _ => 0))), (b 25, .inl (cI, 6, .inl (fun _ => 0))), (b 29, .inl (cI, 6, .inl (fun _ => 0))), (b 30, .inl (cZ, 1040, .inl (fun _ => 0))), (b 31, .inl (cI, 1040, .inl (fun _ => 0))), (b 32, .inl (cI, 78, .inl (fun _ => 0))), (b 27, .inl (cI, 7, .inl f04))] := hD
  obtain rfl : r1 = 0 := hw3
  refine lv_if_ne (tgt := 11) hx hb dX10_straight_5 (by decide) (fun c5 => absurd (by decide) c5) (fun c5 => ?_)
  refine lv_bipush (v := (-2)) hx hb dX10_straight_8 (by decide) ?_
  exact hret _ _ _ _ (-2) f04 hP hD hS dX10_straight_10 rfl
set_option maxHeartbeats 4000000 in
set_option maxRecDepth 100000 in
theorem f_X10_road (l : Launch) (G : va_G) (cI cJ cZ cB cQ : ClassId) (sz : Nat) (h0 : Nat) (b : Nat → Nat) (p0 : Int32) (p1 : Int32) : CI l yX10_road (wl_ yX10_road cX10_road 3 (some .int)) ({ frames := 5, cells := 0, slots := 0, locals := 103 } : Room) G (TY cI cJ cZ cB cQ) [.ref h0, .int p0, .int p1] [(h0, oX10 b 0 0 0 0 0 0 0 0 (-1) 0 0 0 0 0 0 0 0 0), (b 1, .inl (cI, 149, .inl (fun _ => 0))), (b 15, .inl (cZ, 80, .inl (fun _ => 0))), (b 16, .inl (cI, 7, .inl (fun _ => 0))), (b 21, .inl (cZ, 80, .inl (fun _ => 0))), (b 24, .inl (cI, 80, .inl (fun _ => 0))), (b 25, .inl (cI, 6, .inl (fun _ => 0))), (b 29, .inl (cI, 6, .inl (fun _ => 0))), (b 30, .inl (cZ, 1040, .inl (fun _ => 0))), (b 31, .inl (cI, 1040, .inl (fun _ => 0))), (b 32, .inl (cI, 78, .inl (fun _ => 0))), (b 27, .inl (cI, 7, .inl (fun _ => 0)))] sz (fun (r : Int32) (u : (Nat → Int32)) => r = (-2)) (fun u : (Nat → Int32) => [(h0, oX10 b 0 0 0 0 0 0 0 0 (-1) 0 0 (-1) 0 0 0 0 0 0), (b 1, .inl (cI, 149, .inl (fun _ => 0))), (b 15, .inl (cZ, 80, .inl (fun _ => 0))), (b 16, .inl (cI, 7, .inl (fun _ => 0))), (b 21, .inl (cZ, 80, .inl (fun _ => 0))), (b 24, .inl (cI, 80, .inl (fun _ => 0))), (b 25, .inl (cI, 6, .inl (fun _ => 0))), (b 29, .inl (cI, 6, .inl (fun _ => 0))), (b 30, .inl (cZ, 1040, .inl (fun _ => 0))), (b 31, .inl (cI, 1040, .inl (fun _ => 0))), (b 32, .inl (cI, 78, .inl (fun _ => 0))), (b 27, .inl (cI, 7, .inl u))]) 0 0 := by
  refine CI.go (cc := cX10_road) (maxL := 3) (ret := (some .int)) (by decide) rfl (Nat.le_of_ble_eq_true rfl) ?_
  intro p e s m below meth c A ls Q hBd hret
  obtain ⟨hx, hb, hr, hml, hts, hown, hlk, hnm, hP, hK, hD, hA, hZ, hl⟩ := hBd
  have hown : s.vm.findClass RX10 = some m.cls := hown
  have hl : lv_has ls 3 [(0, .ref h0), (1, .int p0), (2, .int p1)] := hl
  have hS : va_S A s.heap s.heap [] := va_S.rf
  refine lv_aload_n hx hb dX10_road_0 rfl (lv_at hl 0 rfl) ?_
  refine lv_iload_n hx hb dX10_road_1 rfl (lv_at hl 2 rfl) ?_
  refine k_i (wc := [(h0, oX10 b 0 0 0 0 0 0 0 0 (-1) 0 0 0 0 0 0 0 0 0), (b 1, .inl (cI, 149, .inl (fun _ => 0))), (b 15, .inl (cZ, 80, .inl (fun _ => 0))), (b 16, .inl (cI, 7, .inl (fun _ => 0))), (b 21, .inl (cZ, 80, .inl (fun _ => 0))), (b 24, .inl (cI, 80, .inl (fun _ => 0))), (b 25, .inl (cI, 6, .inl (fun _ => 0))), (b 29, .inl (cI, 6, .inl (fun _ => 0))), (b 30, .inl (cZ, 1040, .inl (fun _ => 0))), (b 31, .inl (cI, 1040, .inl (fun _ => 0))), (b 32, .inl (cI, 78, .inl (fun _ => 0))), (b 27, .inl (cI, 7, .inl (fun _ => 0)))]) (wr := []) hP hD hS hA [0, 1, 2, 3, 4, 5, 6, 7, 8, 9, 10, 11] [] rfl rfl rfl (by decide) (va_runV (As := [.int p1]) (rest := []) ⟨hx, hb, hml, hown, hts⟩ (f_X10_asksYear l G cI cJ cZ cB cQ _ h0 b p1) (cwV 1 hts (gV w_1620 w_1622 wp_128 w_11 w_1623) rfl rfl rfl ⟨rfl, hd_X10_asksYear⟩ ⟨Nat.le_of_ble_eq_true rfl, Nat.le_of_ble_eq_true rfl⟩) (mV hK hZ hP hD [0, 1, 2, 3, 4, 5, 6, 7, 8, 9, 10, 11] rfl rfl [.int p1] 0 10 rfl rfl) rfl rfl hl.1 rfl (lv_room (Nat.le_of_ble_eq_true rfl)) dX10_road_2 ⟨Nat.le_of_ble_eq_true rfl, Nat.le_of_ble_eq_true rfl⟩) (fun r1 u2 H locs hw3 hP hD hS => ?_)
  obtain ⟨f04, rfl⟩ : ∃ z, z = u2 := ⟨_, rfl⟩
  try dsimp only at hw3
  have hP : va_P G vwCl [(h0, oX10 b 0 0 0 0 0 0 0 0 (-1) 0 0 (-1) 0 0 0 0 0 0), (b 1, .inl (cI, 149, .inl (fun _ => 0))), (b 15, .inl (cZ, 80, .inl (fun _ => 0))), (b 16, .inl (cI, 7, .inl (fun _ => 0))), (b 21, .inl (cZ, 80, .inl (fun _ => 0))), (b 24, .inl (cI, 80, .inl (fun _ => 0))), (b 25, .inl (cI, 6, .inl (fun _ => 0))), (b 29, .inl (cI, 6, .inl (fun _ => 0))), (b 30, .inl (cZ, 1040, .inl (fun _ => 0))), (b 31, .inl (cI, 1040, .inl (fun _ => 0))), (b 32, .inl (cI, 78, .inl (fun _ => 0))), (b 27, .inl (cI, 7, .inl f04))] H := hP
  have hD : va_D A [(h0, oX10 b 0 0 0 0 0 0 0 0 (-1) 0 0 (-1) 0 0 0 0 0 0), (b 1, .inl (cI, 149, .inl (fun _ => 0))), (b 15, .inl (cZ, 80, .inl (fun _ => 0))), (b 16, .inl (cI, 7, .inl (fun _ => 0))), (b 21, .inl (cZ, 80, .inl (fun _ => 0))), (b 24, .inl (cI, 80, .inl (fun _ => 0))), (b 25, .inl (cI, 6, .inl (fun _ => 0))), (b 29, .inl (cI, 6, .inl (fun _ => 0))), (b 30, .inl (cZ, 1040, .inl (fun _ => 0))), (b 31, .inl (cI, 1040, .inl (fun _ => 0))), (b 32, .inl (cI, 78, .inl (fun _ => 0))), (b 27, .inl (cI, 7, .inl f04))] := hD
  obtain rfl : r1 = 0 := hw3
  refine lv_if_eq (tgt := 17) hx hb dX10_road_5 (by decide) (fun c5 => ?_) (fun c5 => absurd (by decide) c5)
  refine lv_bipush (v := (-2)) hx hb dX10_road_17 (by decide) ?_
  exact hret _ _ _ _ (-2) f04 hP hD hS dX10_road_19 rfl
set_option maxHeartbeats 4000000 in
set_option maxRecDepth 100000 in
theorem f_X10_roads (l : Launch) (G : va_G) (cI cJ cZ cB cQ : ClassId) (sz : Nat) (h0 : Nat) (b : Nat → Nat) (p0 : Int32) : CI l yX10_roads (wl_ yX10_roads cX10_roads 2 (some .int)) ({ frames := 5, cells := 0, slots := 0, locals := 103 } : Room) G (TY cI cJ cZ cB cQ) [.ref h0, .int p0] [(h0, oX10 b 0 0 0 0 0 0 0 0 (-1) 0 0 0 0 0 0 0 0 0), (b 1, .inl (cI, 149, .inl (fun _ => 0))), (b 15, .inl (cZ, 80, .inl (fun _ => 0))), (b 16, .inl (cI, 7, .inl (fun _ => 0))), (b 21, .inl (cZ, 80, .inl (fun _ => 0))), (b 24, .inl (cI, 80, .inl (fun _ => 0))), (b 25, .inl (cI, 6, .inl (fun _ => 0))), (b 29, .inl (cI, 6, .inl (fun _ => 0))), (b 30, .inl (cZ, 1040, .inl (fun _ => 0))), (b 31, .inl (cI, 1040, .inl (fun _ => 0))), (b 32, .inl (cI, 78, .inl (fun _ => 0))), (b 27, .inl (cI, 7, .inl (fun _ => 0)))] sz (fun (r : Int32) (u : (Nat → Int32)) => r = (-2)) (fun u : (Nat → Int32) => [(h0, oX10 b 0 0 0 0 0 0 0 0 (-1) 0 0 (-1) 0 0 0 0 0 0), (b 1, .inl (cI, 149, .inl (fun _ => 0))), (b 15, .inl (cZ, 80, .inl (fun _ => 0))), (b 16, .inl (cI, 7, .inl (fun _ => 0))), (b 21, .inl (cZ, 80, .inl (fun _ => 0))), (b 24, .inl (cI, 80, .inl (fun _ => 0))), (b 25, .inl (cI, 6, .inl (fun _ => 0))), (b 29, .inl (cI, 6, .inl (fun _ => 0))), (b 30, .inl (cZ, 1040, .inl (fun _ => 0))), (b 31, .inl (cI, 1040, .inl (fun _ => 0))), (b 32, .inl (cI, 78, .inl (fun _ => 0))), (b 27, .inl (cI, 7, .inl u))]) 0 0 := by
  refine CI.go (cc := cX10_roads) (maxL := 2) (ret := (some .int)) (by decide) rfl (Nat.le_of_ble_eq_true rfl) ?_
  intro p e s m below meth c A ls Q hBd hret
  obtain ⟨hx, hb, hr, hml, hts, hown, hlk, hnm, hP, hK, hD, hA, hZ, hl⟩ := hBd
  have hown : s.vm.findClass RX10 = some m.cls := hown
  have hl : lv_has ls 2 [(0, .ref h0), (1, .int p0)] := hl
  have hS : va_S A s.heap s.heap [] := va_S.rf
  refine lv_aload_n hx hb dX10_roads_0 rfl (lv_at hl 0 rfl) ?_
  refine lv_iload_n hx hb dX10_roads_1 rfl (lv_at hl 1 rfl) ?_
  refine k_i (wc := [(h0, oX10 b 0 0 0 0 0 0 0 0 (-1) 0 0 0 0 0 0 0 0 0), (b 1, .inl (cI, 149, .inl (fun _ => 0))), (b 15, .inl (cZ, 80, .inl (fun _ => 0))), (b 16, .inl (cI, 7, .inl (fun _ => 0))), (b 21, .inl (cZ, 80, .inl (fun _ => 0))), (b 24, .inl (cI, 80, .inl (fun _ => 0))), (b 25, .inl (cI, 6, .inl (fun _ => 0))), (b 29, .inl (cI, 6, .inl (fun _ => 0))), (b 30, .inl (cZ, 1040, .inl (fun _ => 0))), (b 31, .inl (cI, 1040, .inl (fun _ => 0))), (b 32, .inl (cI, 78, .inl (fun _ => 0))), (b 27, .inl (cI, 7, .inl (fun _ => 0)))]) (wr := []) hP hD hS hA [0, 1, 2, 3, 4, 5, 6, 7, 8, 9, 10, 11] [] rfl rfl rfl (by decide) (va_runV (As := [.int p0]) (rest := []) ⟨hx, hb, hml, hown, hts⟩ (f_X10_asksYear l G cI cJ cZ cB cQ _ h0 b p0) (cwV 1 hts (gV w_1620 w_1622 wp_128 w_11 w_1623) rfl rfl rfl ⟨rfl, hd_X10_asksYear⟩ ⟨Nat.le_of_ble_eq_true rfl, Nat.le_of_ble_eq_true rfl⟩) (mV hK hZ hP hD [0, 1, 2, 3, 4, 5, 6, 7, 8, 9, 10, 11] rfl rfl [.int p0] 0 10 rfl rfl) rfl rfl hl.1 rfl (lv_room (Nat.le_of_ble_eq_true rfl)) dX10_roads_2 ⟨Nat.le_of_ble_eq_true rfl, Nat.le_of_ble_eq_true rfl⟩) (fun r1 u2 H locs hw3 hP hD hS => ?_)
  obtain ⟨f04, rfl⟩ : ∃ z, z = u2 := ⟨_, rfl⟩
  try dsimp only at hw3
  have hP : va_P G vwCl [(h0, oX10 b 0 0 0 0 0 0 0 0 (-1) 0 0 (-1) 0 0 0 0 0 0), (b 1, .inl (cI, 149, .inl (fun _ => 0))), (b 15, .inl (cZ, 80, .inl (fun _ => 0))), (b 16, .inl (cI, 7, .inl (fun _ => 0))), (b 21, .inl (cZ, 80, .inl (fun _ => 0))), (b 24, .inl (cI, 80, .inl (fun _ => 0))), (b 25, .inl (cI, 6, .inl (fun _ => 0))), (b 29, .inl (cI, 6, .inl (fun _ => 0))), (b 30, .inl (cZ, 1040, .inl (fun _ => 0))), (b 31, .inl (cI, 1040, .inl (fun _ => 0))), (b 32, .inl (cI, 78, .inl (fun _ => 0))), (b 27, .inl (cI, 7, .inl f04))] H := hP
  have hD : va_D A [(h0, oX10 b 0 0 0 0 0 0 0 0 (-1) 0 0 (-1) 0 0 0 0 0 0), (b 1, .inl (cI, 149, .inl (fun _ => 0))), (b 15, .inl (cZ, 80, .inl (fun _ => 0))), (b 16, .inl (cI, 7, .inl (fun _ => 0))), (b 21, .inl (cZ, 80, .inl (fun _ => 0))), (b 24, .inl (cI, 80, .inl (fun _ => 0))), (b 25, .inl (cI, 6, .inl (fun _ => 0))), (b 29, .inl (cI, 6, .inl (fun _ => 0))), (b 30, .inl (cZ, 1040, .inl (fun _ => 0))), (b 31, .inl (cI, 1040, .inl (fun _ => 0))), (b 32, .inl (cI, 78, .inl (fun _ => 0))), (b 27, .inl (cI, 7, .inl f04))] := hD
  obtain rfl : r1 = 0 := hw3
  refine lv_if_eq (tgt := 16) hx hb dX10_roads_5 (by decide) (fun c5 => ?_) (fun c5 => absurd (by decide) c5)
  refine lv_bipush (v := (-2)) hx hb dX10_roads_16 (by decide) ?_
  exact hret _ _ _ _ (-2) f04 hP hD hS dX10_roads_18 rfl
set_option maxHeartbeats 4000000 in
set_option maxRecDepth 100000 in
theorem f_X10_pegs (l : Launch) (G : va_G) (cI cJ cZ cB cQ : ClassId) (sz : Nat) (h0 : Nat) (b : Nat → Nat) (p0 : Int32) : CI l yX10_pegs (wl_ yX10_pegs cX10_pegs 2 (some .int)) ({ frames := 5, cells := 0, slots := 0, locals := 103 } : Room) G (TY cI cJ cZ cB cQ) [.ref h0, .int p0] [(h0, oX10 b 0 0 0 0 0 0 0 0 (-1) 0 0 0 0 0 0 0 0 0), (b 1, .inl (cI, 149, .inl (fun _ => 0))), (b 15, .inl (cZ, 80, .inl (fun _ => 0))), (b 16, .inl (cI, 7, .inl (fun _ => 0))), (b 21, .inl (cZ, 80, .inl (fun _ => 0))), (b 24, .inl (cI, 80, .inl (fun _ => 0))), (b 25, .inl (cI, 6, .inl (fun _ => 0))), (b 29, .inl (cI, 6, .inl (fun _ => 0))), (b 30, .inl (cZ, 1040, .inl (fun _ => 0))), (b 31, .inl (cI, 1040, .inl (fun _ => 0))), (b 32, .inl (cI, 78, .inl (fun _ => 0))), (b 27, .inl (cI, 7, .inl (fun _ => 0)))] sz (fun (r : Int32) (u : (Nat → Int32)) => r = (-2)) (fun u : (Nat → Int32) => [(h0, oX10 b 0 0 0 0 0 0 0 0 (-1) 0 0 (-1) 0 0 0 0 0 0), (b 1, .inl (cI, 149, .inl (fun _ => 0))), (b 15, .inl (cZ, 80, .inl (fun _ => 0))), (b 16, .inl (cI, 7, .inl (fun _ => 0))), (b 21, .inl (cZ, 80, .inl (fun _ => 0))), (b 24, .inl (cI, 80, .inl (fun _ => 0))), (b 25, .inl (cI, 6, .inl (fun _ => 0))), (b 29, .inl (cI, 6, .inl (fun _ => 0))), (b 30, .inl (cZ, 1040, .inl (fun _ => 0))), (b 31, .inl (cI, 1040, .inl (fun _ => 0))), (b 32, .inl (cI, 78, .inl (fun _ => 0))), (b 27, .inl (cI, 7, .inl u))]) 0 0 := by
  refine CI.go (cc := cX10_pegs) (maxL := 2) (ret := (some .int)) (by decide) rfl (Nat.le_of_ble_eq_true rfl) ?_
  intro p e s m below meth c A ls Q hBd hret
  obtain ⟨hx, hb, hr, hml, hts, hown, hlk, hnm, hP, hK, hD, hA, hZ, hl⟩ := hBd
  have hown : s.vm.findClass RX10 = some m.cls := hown
  have hl : lv_has ls 2 [(0, .ref h0), (1, .int p0)] := hl
  have hS : va_S A s.heap s.heap [] := va_S.rf
  refine lv_aload_n hx hb dX10_pegs_0 rfl (lv_at hl 0 rfl) ?_
  refine lv_iload_n hx hb dX10_pegs_1 rfl (lv_at hl 1 rfl) ?_
  refine k_i (wc := [(h0, oX10 b 0 0 0 0 0 0 0 0 (-1) 0 0 0 0 0 0 0 0 0), (b 1, .inl (cI, 149, .inl (fun _ => 0))), (b 15, .inl (cZ, 80, .inl (fun _ => 0))), (b 16, .inl (cI, 7, .inl (fun _ => 0))), (b 21, .inl (cZ, 80, .inl (fun _ => 0))), (b 24, .inl (cI, 80, .inl (fun _ => 0))), (b 25, .inl (cI, 6, .inl (fun _ => 0))), (b 29, .inl (cI, 6, .inl (fun _ => 0))), (b 30, .inl (cZ, 1040, .inl (fun _ => 0))), (b 31, .inl (cI, 1040, .inl (fun _ => 0))), (b 32, .inl (cI, 78, .inl (fun _ => 0))), (b 27, .inl (cI, 7, .inl (fun _ => 0)))]) (wr := []) hP hD hS hA [0, 1, 2, 3, 4, 5, 6, 7, 8, 9, 10, 11] [] rfl rfl rfl (by decide) (va_runV (As := [.int p0]) (rest := []) ⟨hx, hb, hml, hown, hts⟩ (f_X10_asksYear l G cI cJ cZ cB cQ _ h0 b p0) (cwV 1 hts (gV w_1620 w_1622 wp_128 w_11 w_1623) rfl rfl rfl ⟨rfl, hd_X10_asksYear⟩ ⟨Nat.le_of_ble_eq_true rfl, Nat.le_of_ble_eq_true rfl⟩) (mV hK hZ hP hD [0, 1, 2, 3, 4, 5, 6, 7, 8, 9, 10, 11] rfl rfl [.int p0] 0 10 rfl rfl) rfl rfl hl.1 rfl (lv_room (Nat.le_of_ble_eq_true rfl)) dX10_pegs_2 ⟨Nat.le_of_ble_eq_true rfl, Nat.le_of_ble_eq_true rfl⟩) (fun r1 u2 H locs hw3 hP hD hS => ?_)
  obtain ⟨f04, rfl⟩ : ∃ z, z = u2 := ⟨_, rfl⟩
  try dsimp only at hw3
  have hP : va_P G vwCl [(h0, oX10 b 0 0 0 0 0 0 0 0 (-1) 0 0 (-1) 0 0 0 0 0 0), (b 1, .inl (cI, 149, .inl (fun _ => 0))), (b 15, .inl (cZ, 80, .inl (fun _ => 0))), (b 16, .inl (cI, 7, .inl (fun _ => 0))), (b 21, .inl (cZ, 80, .inl (fun _ => 0))), (b 24, .inl (cI, 80, .inl (fun _ => 0))), (b 25, .inl (cI, 6, .inl (fun _ => 0))), (b 29, .inl (cI, 6, .inl (fun _ => 0))), (b 30, .inl (cZ, 1040, .inl (fun _ => 0))), (b 31, .inl (cI, 1040, .inl (fun _ => 0))), (b 32, .inl (cI, 78, .inl (fun _ => 0))), (b 27, .inl (cI, 7, .inl f04))] H := hP
  have hD : va_D A [(h0, oX10 b 0 0 0 0 0 0 0 0 (-1) 0 0 (-1) 0 0 0 0 0 0), (b 1, .inl (cI, 149, .inl (fun _ => 0))), (b 15, .inl (cZ, 80, .inl (fun _ => 0))), (b 16, .inl (cI, 7, .inl (fun _ => 0))), (b 21, .inl (cZ, 80, .inl (fun _ => 0))), (b 24, .inl (cI, 80, .inl (fun _ => 0))), (b 25, .inl (cI, 6, .inl (fun _ => 0))), (b 29, .inl (cI, 6, .inl (fun _ => 0))), (b 30, .inl (cZ, 1040, .inl (fun _ => 0))), (b 31, .inl (cI, 1040, .inl (fun _ => 0))), (b 32, .inl (cI, 78, .inl (fun _ => 0))), (b 27, .inl (cI, 7, .inl f04))] := hD
  obtain rfl : r1 = 0 := hw3
  refine lv_if_eq (tgt := 16) hx hb dX10_pegs_5 (by decide) (fun c5 => ?_) (fun c5 => absurd (by decide) c5)
  refine lv_bipush (v := (-2)) hx hb dX10_pegs_16 (by decide) ?_
  exact hret _ _ _ _ (-2) f04 hP hD hS dX10_pegs_18 rfl
set_option maxHeartbeats 4000000 in
set_option maxRecDepth 100000 in
theorem f_X10_joins (l : Launch) (G : va_G) (cI cJ cZ cB cQ : ClassId) (sz : Nat) (h0 : Nat) (b : Nat → Nat) (p0 : Int32) (p1 : Int32) : CI l yX10_joins (wl_ yX10_joins cX10_joins 3 (some .int)) ({ frames := 5, cells := 0, slots := 0, locals := 103 } : Room) G (TY cI cJ cZ cB cQ) [.ref h0, .int p0, .int p1] [(h0, oX10 b 0 0 0 0 0 0 0 0 (-1) 0 0 0 0 0 0 0 0 0), (b 1, .inl (cI, 149, .inl (fun _ => 0))), (b 15, .inl (cZ, 80, .inl (fun _ => 0))), (b 16, .inl (cI, 7, .inl (fun _ => 0))), (b 21, .inl (cZ, 80, .inl (fun _ => 0))), (b 24, .inl (cI, 80, .inl (fun _ => 0))), (b 25, .inl (cI, 6, .inl (fun _ => 0))), (b 29, .inl (cI, 6, .inl (fun _ => 0))), (b 30, .inl (cZ, 1040, .inl (fun _ => 0))), (b 31, .inl (cI, 1040, .inl (fun _ => 0))), (b 32, .inl (cI, 78, .inl (fun _ => 0))), (b 27, .inl (cI, 7, .inl (fun _ => 0)))] sz (fun (r : Int32) (u : (Nat → Int32)) => r = (-2)) (fun u : (Nat → Int32) => [(h0, oX10 b 0 0 0 0 0 0 0 0 (-1) 0 0 (-1) 0 0 0 0 0 0), (b 1, .inl (cI, 149, .inl (fun _ => 0))), (b 15, .inl (cZ, 80, .inl (fun _ => 0))), (b 16, .inl (cI, 7, .inl (fun _ => 0))), (b 21, .inl (cZ, 80, .inl (fun _ => 0))), (b 24, .inl (cI, 80, .inl (fun _ => 0))), (b 25, .inl (cI, 6, .inl (fun _ => 0))), (b 29, .inl (cI, 6, .inl (fun _ => 0))), (b 30, .inl (cZ, 1040, .inl (fun _ => 0))), (b 31, .inl (cI, 1040, .inl (fun _ => 0))), (b 32, .inl (cI, 78, .inl (fun _ => 0))), (b 27, .inl (cI, 7, .inl u))]) 0 0 := by
  refine CI.go (cc := cX10_joins) (maxL := 3) (ret := (some .int)) (by decide) rfl (Nat.le_of_ble_eq_true rfl) ?_
  intro p e s m below meth c A ls Q hBd hret
  obtain ⟨hx, hb, hr, hml, hts, hown, hlk, hnm, hP, hK, hD, hA, hZ, hl⟩ := hBd
  have hown : s.vm.findClass RX10 = some m.cls := hown
  have hl : lv_has ls 3 [(0, .ref h0), (1, .int p0), (2, .int p1)] := hl
  have hS : va_S A s.heap s.heap [] := va_S.rf
  refine lv_aload_n hx hb dX10_joins_0 rfl (lv_at hl 0 rfl) ?_
  refine lv_iload_n hx hb dX10_joins_1 rfl (lv_at hl 2 rfl) ?_
  refine k_i (wc := [(h0, oX10 b 0 0 0 0 0 0 0 0 (-1) 0 0 0 0 0 0 0 0 0), (b 1, .inl (cI, 149, .inl (fun _ => 0))), (b 15, .inl (cZ, 80, .inl (fun _ => 0))), (b 16, .inl (cI, 7, .inl (fun _ => 0))), (b 21, .inl (cZ, 80, .inl (fun _ => 0))), (b 24, .inl (cI, 80, .inl (fun _ => 0))), (b 25, .inl (cI, 6, .inl (fun _ => 0))), (b 29, .inl (cI, 6, .inl (fun _ => 0))), (b 30, .inl (cZ, 1040, .inl (fun _ => 0))), (b 31, .inl (cI, 1040, .inl (fun _ => 0))), (b 32, .inl (cI, 78, .inl (fun _ => 0))), (b 27, .inl (cI, 7, .inl (fun _ => 0)))]) (wr := []) hP hD hS hA [0, 1, 2, 3, 4, 5, 6, 7, 8, 9, 10, 11] [] rfl rfl rfl (by decide) (va_runV (As := [.int p1]) (rest := []) ⟨hx, hb, hml, hown, hts⟩ (f_X10_asksYear l G cI cJ cZ cB cQ _ h0 b p1) (cwV 1 hts (gV w_1620 w_1622 wp_128 w_11 w_1623) rfl rfl rfl ⟨rfl, hd_X10_asksYear⟩ ⟨Nat.le_of_ble_eq_true rfl, Nat.le_of_ble_eq_true rfl⟩) (mV hK hZ hP hD [0, 1, 2, 3, 4, 5, 6, 7, 8, 9, 10, 11] rfl rfl [.int p1] 0 10 rfl rfl) rfl rfl hl.1 rfl (lv_room (Nat.le_of_ble_eq_true rfl)) dX10_joins_2 ⟨Nat.le_of_ble_eq_true rfl, Nat.le_of_ble_eq_true rfl⟩) (fun r1 u2 H locs hw3 hP hD hS => ?_)
  obtain ⟨f04, rfl⟩ : ∃ z, z = u2 := ⟨_, rfl⟩
  try dsimp only at hw3
  have hP : va_P G vwCl [(h0, oX10 b 0 0 0 0 0 0 0 0 (-1) 0 0 (-1) 0 0 0 0 0 0), (b 1, .inl (cI, 149, .inl (fun _ => 0))), (b 15, .inl (cZ, 80, .inl (fun _ => 0))), (b 16, .inl (cI, 7, .inl (fun _ => 0))), (b 21, .inl (cZ, 80, .inl (fun _ => 0))), (b 24, .inl (cI, 80, .inl (fun _ => 0))), (b 25, .inl (cI, 6, .inl (fun _ => 0))), (b 29, .inl (cI, 6, .inl (fun _ => 0))), (b 30, .inl (cZ, 1040, .inl (fun _ => 0))), (b 31, .inl (cI, 1040, .inl (fun _ => 0))), (b 32, .inl (cI, 78, .inl (fun _ => 0))), (b 27, .inl (cI, 7, .inl f04))] H := hP
  have hD : va_D A [(h0, oX10 b 0 0 0 0 0 0 0 0 (-1) 0 0 (-1) 0 0 0 0 0 0), (b 1, .inl (cI, 149, .inl (fun _ => 0))), (b 15, .inl (cZ, 80, .inl (fun _ => 0))), (b 16, .inl (cI, 7, .inl (fun _ => 0))), (b 21, .inl (cZ, 80, .inl (fun _ => 0))), (b 24, .inl (cI, 80, .inl (fun _ => 0))), (b 25, .inl (cI, 6, .inl (fun _ => 0))), (b 29, .inl (cI, 6, .inl (fun _ => 0))), (b 30, .inl (cZ, 1040, .inl (fun _ => 0))), (b 31, .inl (cI, 1040, .inl (fun _ => 0))), (b 32, .inl (cI, 78, .inl (fun _ => 0))), (b 27, .inl (cI, 7, .inl f04))] := hD
  obtain rfl : r1 = 0 := hw3
  refine lv_if_eq (tgt := 26) hx hb dX10_joins_5 (by decide) (fun c5 => ?_) (fun c5 => absurd (by decide) c5)
  refine lv_bipush (v := (-2)) hx hb dX10_joins_26 (by decide) ?_
  exact hret _ _ _ _ (-2) f04 hP hD hS dX10_joins_28 rfl
set_option maxHeartbeats 4000000 in
set_option maxRecDepth 100000 in
theorem f_X10_corners (l : Launch) (G : va_G) (cI cJ cZ cB cQ : ClassId) (sz : Nat) (h0 : Nat) (b : Nat → Nat) (p0 : Int32) (p1 : Int32) : CI l yX10_corners (wl_ yX10_corners cX10_corners 5 (some .int)) ({ frames := 5, cells := 0, slots := 0, locals := 103 } : Room) G (TY cI cJ cZ cB cQ) [.ref h0, .int p0, .int p1] [(h0, oX10 b 0 0 0 0 0 0 0 0 (-1) 0 0 0 0 0 0 0 0 0), (b 1, .inl (cI, 149, .inl (fun _ => 0))), (b 15, .inl (cZ, 80, .inl (fun _ => 0))), (b 16, .inl (cI, 7, .inl (fun _ => 0))), (b 21, .inl (cZ, 80, .inl (fun _ => 0))), (b 24, .inl (cI, 80, .inl (fun _ => 0))), (b 25, .inl (cI, 6, .inl (fun _ => 0))), (b 29, .inl (cI, 6, .inl (fun _ => 0))), (b 30, .inl (cZ, 1040, .inl (fun _ => 0))), (b 31, .inl (cI, 1040, .inl (fun _ => 0))), (b 32, .inl (cI, 78, .inl (fun _ => 0))), (b 27, .inl (cI, 7, .inl (fun _ => 0)))] sz (fun (r : Int32) (u : (Nat → Int32)) => r = (-2)) (fun u : (Nat → Int32) => [(h0, oX10 b 0 0 0 0 0 0 0 0 (-1) 0 0 (-1) 0 0 0 0 0 0), (b 1, .inl (cI, 149, .inl (fun _ => 0))), (b 15, .inl (cZ, 80, .inl (fun _ => 0))), (b 16, .inl (cI, 7, .inl (fun _ => 0))), (b 21, .inl (cZ, 80, .inl (fun _ => 0))), (b 24, .inl (cI, 80, .inl (fun _ => 0))), (b 25, .inl (cI, 6, .inl (fun _ => 0))), (b 29, .inl (cI, 6, .inl (fun _ => 0))), (b 30, .inl (cZ, 1040, .inl (fun _ => 0))), (b 31, .inl (cI, 1040, .inl (fun _ => 0))), (b 32, .inl (cI, 78, .inl (fun _ => 0))), (b 27, .inl (cI, 7, .inl u))]) 0 0 := by
  refine CI.go (cc := cX10_corners) (maxL := 5) (ret := (some .int)) (by decide) rfl (Nat.le_of_ble_eq_true rfl) ?_
  intro p e s m below meth c A ls Q hBd hret
  obtain ⟨hx, hb, hr, hml, hts, hown, hlk, hnm, hP, hK, hD, hA, hZ, hl⟩ := hBd
  have hown : s.vm.findClass RX10 = some m.cls := hown
  have hl : lv_has ls 5 [(0, .ref h0), (1, .int p0), (2, .int p1)] := hl
  have hS : va_S A s.heap s.heap [] := va_S.rf
  refine lv_aload_n hx hb dX10_corners_0 rfl (lv_at hl 0 rfl) ?_
  refine lv_iload_n hx hb dX10_corners_1 rfl (lv_at hl 2 rfl) ?_
  refine k_i (wc := [(h0, oX10 b 0 0 0 0 0 0 0 0 (-1) 0 0 0 0 0 0 0 0 0), (b 1, .inl (cI, 149, .inl (fun _ => 0))), (b 15, .inl (cZ, 80, .inl (fun _ => 0))), (b 16, .inl (cI, 7, .inl (fun _ => 0))), (b 21, .inl (cZ, 80, .inl (fun _ => 0))), (b 24, .inl (cI, 80, .inl (fun _ => 0))), (b 25, .inl (cI, 6, .inl (fun _ => 0))), (b 29, .inl (cI, 6, .inl (fun _ => 0))), (b 30, .inl (cZ, 1040, .inl (fun _ => 0))), (b 31, .inl (cI, 1040, .inl (fun _ => 0))), (b 32, .inl (cI, 78, .inl (fun _ => 0))), (b 27, .inl (cI, 7, .inl (fun _ => 0)))]) (wr := []) hP hD hS hA [0, 1, 2, 3, 4, 5, 6, 7, 8, 9, 10, 11] [] rfl rfl rfl (by decide) (va_runV (As := [.int p1]) (rest := []) ⟨hx, hb, hml, hown, hts⟩ (f_X10_asksYear l G cI cJ cZ cB cQ _ h0 b p1) (cwV 1 hts (gV w_1620 w_1622 wp_128 w_11 w_1623) rfl rfl rfl ⟨rfl, hd_X10_asksYear⟩ ⟨Nat.le_of_ble_eq_true rfl, Nat.le_of_ble_eq_true rfl⟩) (mV hK hZ hP hD [0, 1, 2, 3, 4, 5, 6, 7, 8, 9, 10, 11] rfl rfl [.int p1] 0 10 rfl rfl) rfl rfl hl.1 rfl (lv_room (Nat.le_of_ble_eq_true rfl)) dX10_corners_2 ⟨Nat.le_of_ble_eq_true rfl, Nat.le_of_ble_eq_true rfl⟩) (fun r1 u2 H locs hw3 hP hD hS => ?_)
  obtain ⟨f04, rfl⟩ : ∃ z, z = u2 := ⟨_, rfl⟩
  try dsimp only at hw3
  have hP : va_P G vwCl [(h0, oX10 b 0 0 0 0 0 0 0 0 (-1) 0 0 (-1) 0 0 0 0 0 0), (b 1, .inl (cI, 149, .inl (fun _ => 0))), (b 15, .inl (cZ, 80, .inl (fun _ => 0))), (b 16, .inl (cI, 7, .inl (fun _ => 0))), (b 21, .inl (cZ, 80, .inl (fun _ => 0))), (b 24, .inl (cI, 80, .inl (fun _ => 0))), (b 25, .inl (cI, 6, .inl (fun _ => 0))), (b 29, .inl (cI, 6, .inl (fun _ => 0))), (b 30, .inl (cZ, 1040, .inl (fun _ => 0))), (b 31, .inl (cI, 1040, .inl (fun _ => 0))), (b 32, .inl (cI, 78, .inl (fun _ => 0))), (b 27, .inl (cI, 7, .inl f04))] H := hP
  have hD : va_D A [(h0, oX10 b 0 0 0 0 0 0 0 0 (-1) 0 0 (-1) 0 0 0 0 0 0), (b 1, .inl (cI, 149, .inl (fun _ => 0))), (b 15, .inl (cZ, 80, .inl (fun _ => 0))), (b 16, .inl (cI, 7, .inl (fun _ => 0))), (b 21, .inl (cZ, 80, .inl (fun _ => 0))), (b 24, .inl (cI, 80, .inl (fun _ => 0))), (b 25, .inl (cI, 6, .inl (fun _ => 0))), (b 29, .inl (cI, 6, .inl (fun _ => 0))), (b 30, .inl (cZ, 1040, .inl (fun _ => 0))), (b 31, .inl (cI, 1040, .inl (fun _ => 0))), (b 32, .inl (cI, 78, .inl (fun _ => 0))), (b 27, .inl (cI, 7, .inl f04))] := hD
  obtain rfl : r1 = 0 := hw3
  refine lv_if_eq (tgt := 20) hx hb dX10_corners_5 (by decide) (fun c5 => ?_) (fun c5 => absurd (by decide) c5)
  refine lv_bipush (v := (-2)) hx hb dX10_corners_20 (by decide) ?_
  exact hret _ _ _ _ (-2) f04 hP hD hS dX10_corners_22 rfl
set_option maxHeartbeats 4000000 in
set_option maxRecDepth 100000 in
theorem f_X10_nets (l : Launch) (G : va_G) (cI cJ cZ cB cQ : ClassId) (sz : Nat) (h0 : Nat) (b : Nat → Nat) (p0 : Int32) : CI l yX10_nets (wl_ yX10_nets cX10_nets 2 (some .int)) ({ frames := 5, cells := 0, slots := 0, locals := 103 } : Room) G (TY cI cJ cZ cB cQ) [.ref h0, .int p0] [(h0, oX10 b 0 0 0 0 0 0 0 0 (-1) 0 0 0 0 0 0 0 0 0), (b 1, .inl (cI, 149, .inl (fun _ => 0))), (b 15, .inl (cZ, 80, .inl (fun _ => 0))), (b 16, .inl (cI, 7, .inl (fun _ => 0))), (b 21, .inl (cZ, 80, .inl (fun _ => 0))), (b 24, .inl (cI, 80, .inl (fun _ => 0))), (b 25, .inl (cI, 6, .inl (fun _ => 0))), (b 29, .inl (cI, 6, .inl (fun _ => 0))), (b 30, .inl (cZ, 1040, .inl (fun _ => 0))), (b 31, .inl (cI, 1040, .inl (fun _ => 0))), (b 32, .inl (cI, 78, .inl (fun _ => 0))), (b 27, .inl (cI, 7, .inl (fun _ => 0)))] sz (fun (r : Int32) (u : (Nat → Int32)) => r = (-2)) (fun u : (Nat → Int32) => [(h0, oX10 b 0 0 0 0 0 0 0 0 (-1) 0 0 (-1) 0 0 0 0 0 0), (b 1, .inl (cI, 149, .inl (fun _ => 0))), (b 15, .inl (cZ, 80, .inl (fun _ => 0))), (b 16, .inl (cI, 7, .inl (fun _ => 0))), (b 21, .inl (cZ, 80, .inl (fun _ => 0))), (b 24, .inl (cI, 80, .inl (fun _ => 0))), (b 25, .inl (cI, 6, .inl (fun _ => 0))), (b 29, .inl (cI, 6, .inl (fun _ => 0))), (b 30, .inl (cZ, 1040, .inl (fun _ => 0))), (b 31, .inl (cI, 1040, .inl (fun _ => 0))), (b 32, .inl (cI, 78, .inl (fun _ => 0))), (b 27, .inl (cI, 7, .inl u))]) 0 0 := by
  refine CI.go (cc := cX10_nets) (maxL := 2) (ret := (some .int)) (by decide) rfl (Nat.le_of_ble_eq_true rfl) ?_
  intro p e s m below meth c A ls Q hBd hret
  obtain ⟨hx, hb, hr, hml, hts, hown, hlk, hnm, hP, hK, hD, hA, hZ, hl⟩ := hBd
  have hown : s.vm.findClass RX10 = some m.cls := hown
  have hl : lv_has ls 2 [(0, .ref h0), (1, .int p0)] := hl
  have hS : va_S A s.heap s.heap [] := va_S.rf
  refine lv_aload_n hx hb dX10_nets_0 rfl (lv_at hl 0 rfl) ?_
  refine lv_iload_n hx hb dX10_nets_1 rfl (lv_at hl 1 rfl) ?_
  refine k_i (wc := [(h0, oX10 b 0 0 0 0 0 0 0 0 (-1) 0 0 0 0 0 0 0 0 0), (b 1, .inl (cI, 149, .inl (fun _ => 0))), (b 15, .inl (cZ, 80, .inl (fun _ => 0))), (b 16, .inl (cI, 7, .inl (fun _ => 0))), (b 21, .inl (cZ, 80, .inl (fun _ => 0))), (b 24, .inl (cI, 80, .inl (fun _ => 0))), (b 25, .inl (cI, 6, .inl (fun _ => 0))), (b 29, .inl (cI, 6, .inl (fun _ => 0))), (b 30, .inl (cZ, 1040, .inl (fun _ => 0))), (b 31, .inl (cI, 1040, .inl (fun _ => 0))), (b 32, .inl (cI, 78, .inl (fun _ => 0))), (b 27, .inl (cI, 7, .inl (fun _ => 0)))]) (wr := []) hP hD hS hA [0, 1, 2, 3, 4, 5, 6, 7, 8, 9, 10, 11] [] rfl rfl rfl (by decide) (va_runV (As := [.int p0]) (rest := []) ⟨hx, hb, hml, hown, hts⟩ (f_X10_asksYear l G cI cJ cZ cB cQ _ h0 b p0) (cwV 1 hts (gV w_1620 w_1622 wp_128 w_11 w_1623) rfl rfl rfl ⟨rfl, hd_X10_asksYear⟩ ⟨Nat.le_of_ble_eq_true rfl, Nat.le_of_ble_eq_true rfl⟩) (mV hK hZ hP hD [0, 1, 2, 3, 4, 5, 6, 7, 8, 9, 10, 11] rfl rfl [.int p0] 0 10 rfl rfl) rfl rfl hl.1 rfl (lv_room (Nat.le_of_ble_eq_true rfl)) dX10_nets_2 ⟨Nat.le_of_ble_eq_true rfl, Nat.le_of_ble_eq_true rfl⟩) (fun r1 u2 H locs hw3 hP hD hS => ?_)
  obtain ⟨f04, rfl⟩ : ∃ z, z = u2 := ⟨_, rfl⟩
  try dsimp only at hw3
  have hP : va_P G vwCl [(h0, oX10 b 0 0 0 0 0 0 0 0 (-1) 0 0 (-1) 0 0 0 0 0 0), (b 1, .inl (cI, 149, .inl (fun _ => 0))), (b 15, .inl (cZ, 80, .inl (fun _ => 0))), (b 16, .inl (cI, 7, .inl (fun _ => 0))), (b 21, .inl (cZ, 80, .inl (fun _ => 0))), (b 24, .inl (cI, 80, .inl (fun _ => 0))), (b 25, .inl (cI, 6, .inl (fun _ => 0))), (b 29, .inl (cI, 6, .inl (fun _ => 0))), (b 30, .inl (cZ, 1040, .inl (fun _ => 0))), (b 31, .inl (cI, 1040, .inl (fun _ => 0))), (b 32, .inl (cI, 78, .inl (fun _ => 0))), (b 27, .inl (cI, 7, .inl f04))] H := hP
  have hD : va_D A [(h0, oX10 b 0 0 0 0 0 0 0 0 (-1) 0 0 (-1) 0 0 0 0 0 0), (b 1, .inl (cI, 149, .inl (fun _ => 0))), (b 15, .inl (cZ, 80, .inl (fun _ => 0))), (b 16, .inl (cI, 7, .inl (fun _ => 0))), (b 21, .inl (cZ, 80, .inl (fun _ => 0))), (b 24, .inl (cI, 80, .inl (fun _ => 0))), (b 25, .inl (cI, 6, .inl (fun _ => 0))), (b 29, .inl (cI, 6, .inl (fun _ => 0))), (b 30, .inl (cZ, 1040, .inl (fun _ => 0))), (b 31, .inl (cI, 1040, .inl (fun _ => 0))), (b 32, .inl (cI, 78, .inl (fun _ => 0))), (b 27, .inl (cI, 7, .inl f04))] := hD
  obtain rfl : r1 = 0 := hw3
  refine lv_if_eq (tgt := 16) hx hb dX10_nets_5 (by decide) (fun c5 => ?_) (fun c5 => absurd (by decide) c5)
  refine lv_bipush (v := (-2)) hx hb dX10_nets_16 (by decide) ?_
  exact hret _ _ _ _ (-2) f04 hP hD hS dX10_nets_18 rfl
set_option maxHeartbeats 4000000 in
set_option maxRecDepth 100000 in
theorem f_X10_missing (l : Launch) (G : va_G) (cI cJ cZ cB cQ : ClassId) (sz : Nat) (h0 : Nat) (b : Nat → Nat) (p0 : Int32) : CI l yX10_missing (wl_ yX10_missing cX10_missing 2 (some .int)) ({ frames := 5, cells := 0, slots := 0, locals := 103 } : Room) G (TY cI cJ cZ cB cQ) [.ref h0, .int p0] [(h0, oX10 b 0 0 0 0 0 0 0 0 (-1) 0 0 0 0 0 0 0 0 0), (b 1, .inl (cI, 149, .inl (fun _ => 0))), (b 15, .inl (cZ, 80, .inl (fun _ => 0))), (b 16, .inl (cI, 7, .inl (fun _ => 0))), (b 21, .inl (cZ, 80, .inl (fun _ => 0))), (b 24, .inl (cI, 80, .inl (fun _ => 0))), (b 25, .inl (cI, 6, .inl (fun _ => 0))), (b 29, .inl (cI, 6, .inl (fun _ => 0))), (b 30, .inl (cZ, 1040, .inl (fun _ => 0))), (b 31, .inl (cI, 1040, .inl (fun _ => 0))), (b 32, .inl (cI, 78, .inl (fun _ => 0))), (b 27, .inl (cI, 7, .inl (fun _ => 0)))] sz (fun (r : Int32) (u : (Nat → Int32)) => r = (-2)) (fun u : (Nat → Int32) => [(h0, oX10 b 0 0 0 0 0 0 0 0 (-1) 0 0 (-1) 0 0 0 0 0 0), (b 1, .inl (cI, 149, .inl (fun _ => 0))), (b 15, .inl (cZ, 80, .inl (fun _ => 0))), (b 16, .inl (cI, 7, .inl (fun _ => 0))), (b 21, .inl (cZ, 80, .inl (fun _ => 0))), (b 24, .inl (cI, 80, .inl (fun _ => 0))), (b 25, .inl (cI, 6, .inl (fun _ => 0))), (b 29, .inl (cI, 6, .inl (fun _ => 0))), (b 30, .inl (cZ, 1040, .inl (fun _ => 0))), (b 31, .inl (cI, 1040, .inl (fun _ => 0))), (b 32, .inl (cI, 78, .inl (fun _ => 0))), (b 27, .inl (cI, 7, .inl u))]) 0 0 := by
  refine CI.go (cc := cX10_missing) (maxL := 2) (ret := (some .int)) (by decide) rfl (Nat.le_of_ble_eq_true rfl) ?_
  intro p e s m below meth c A ls Q hBd hret
  obtain ⟨hx, hb, hr, hml, hts, hown, hlk, hnm, hP, hK, hD, hA, hZ, hl⟩ := hBd
  have hown : s.vm.findClass RX10 = some m.cls := hown
  have hl : lv_has ls 2 [(0, .ref h0), (1, .int p0)] := hl
  have hS : va_S A s.heap s.heap [] := va_S.rf
  refine lv_aload_n hx hb dX10_missing_0 rfl (lv_at hl 0 rfl) ?_
  refine lv_iload_n hx hb dX10_missing_1 rfl (lv_at hl 1 rfl) ?_
  refine k_i (wc := [(h0, oX10 b 0 0 0 0 0 0 0 0 (-1) 0 0 0 0 0 0 0 0 0), (b 1, .inl (cI, 149, .inl (fun _ => 0))), (b 15, .inl (cZ, 80, .inl (fun _ => 0))), (b 16, .inl (cI, 7, .inl (fun _ => 0))), (b 21, .inl (cZ, 80, .inl (fun _ => 0))), (b 24, .inl (cI, 80, .inl (fun _ => 0))), (b 25, .inl (cI, 6, .inl (fun _ => 0))), (b 29, .inl (cI, 6, .inl (fun _ => 0))), (b 30, .inl (cZ, 1040, .inl (fun _ => 0))), (b 31, .inl (cI, 1040, .inl (fun _ => 0))), (b 32, .inl (cI, 78, .inl (fun _ => 0))), (b 27, .inl (cI, 7, .inl (fun _ => 0)))]) (wr := []) hP hD hS hA [0, 1, 2, 3, 4, 5, 6, 7, 8, 9, 10, 11] [] rfl rfl rfl (by decide) (va_runV (As := [.int p0]) (rest := []) ⟨hx, hb, hml, hown, hts⟩ (f_X10_asksYear l G cI cJ cZ cB cQ _ h0 b p0) (cwV 1 hts (gV w_1620 w_1622 wp_128 w_11 w_1623) rfl rfl rfl ⟨rfl, hd_X10_asksYear⟩ ⟨Nat.le_of_ble_eq_true rfl, Nat.le_of_ble_eq_true rfl⟩) (mV hK hZ hP hD [0, 1, 2, 3, 4, 5, 6, 7, 8, 9, 10, 11] rfl rfl [.int p0] 0 10 rfl rfl) rfl rfl hl.1 rfl (lv_room (Nat.le_of_ble_eq_true rfl)) dX10_missing_2 ⟨Nat.le_of_ble_eq_true rfl, Nat.le_of_ble_eq_true rfl⟩) (fun r1 u2 H locs hw3 hP hD hS => ?_)
  obtain ⟨f04, rfl⟩ : ∃ z, z = u2 := ⟨_, rfl⟩
  try dsimp only at hw3
  have hP : va_P G vwCl [(h0, oX10 b 0 0 0 0 0 0 0 0 (-1) 0 0 (-1) 0 0 0 0 0 0), (b 1, .inl (cI, 149, .inl (fun _ => 0))), (b 15, .inl (cZ, 80, .inl (fun _ => 0))), (b 16, .inl (cI, 7, .inl (fun _ => 0))), (b 21, .inl (cZ, 80, .inl (fun _ => 0))), (b 24, .inl (cI, 80, .inl (fun _ => 0))), (b 25, .inl (cI, 6, .inl (fun _ => 0))), (b 29, .inl (cI, 6, .inl (fun _ => 0))), (b 30, .inl (cZ, 1040, .inl (fun _ => 0))), (b 31, .inl (cI, 1040, .inl (fun _ => 0))), (b 32, .inl (cI, 78, .inl (fun _ => 0))), (b 27, .inl (cI, 7, .inl f04))] H := hP
  have hD : va_D A [(h0, oX10 b 0 0 0 0 0 0 0 0 (-1) 0 0 (-1) 0 0 0 0 0 0), (b 1, .inl (cI, 149, .inl (fun _ => 0))), (b 15, .inl (cZ, 80, .inl (fun _ => 0))), (b 16, .inl (cI, 7, .inl (fun _ => 0))), (b 21, .inl (cZ, 80, .inl (fun _ => 0))), (b 24, .inl (cI, 80, .inl (fun _ => 0))), (b 25, .inl (cI, 6, .inl (fun _ => 0))), (b 29, .inl (cI, 6, .inl (fun _ => 0))), (b 30, .inl (cZ, 1040, .inl (fun _ => 0))), (b 31, .inl (cI, 1040, .inl (fun _ => 0))), (b 32, .inl (cI, 78, .inl (fun _ => 0))), (b 27, .inl (cI, 7, .inl f04))] := hD
  obtain rfl : r1 = 0 := hw3
  refine lv_if_ne (tgt := 11) hx hb dX10_missing_5 (by decide) (fun c5 => absurd (by decide) c5) (fun c5 => ?_)
  refine lv_bipush (v := (-2)) hx hb dX10_missing_8 (by decide) ?_
  exact hret _ _ _ _ (-2) f04 hP hD hS dX10_missing_10 rfl
set_option maxHeartbeats 4000000 in
set_option maxRecDepth 100000 in
theorem f_X10_rings (l : Launch) (G : va_G) (cI cJ cZ cB cQ : ClassId) (sz : Nat) (h0 : Nat) (b : Nat → Nat) (p0 : Int32) : CI l yX10_rings (wl_ yX10_rings cX10_rings 2 (some .int)) ({ frames := 5, cells := 0, slots := 0, locals := 103 } : Room) G (TY cI cJ cZ cB cQ) [.ref h0, .int p0] [(h0, oX10 b 0 0 0 0 0 0 0 0 (-1) 0 0 0 0 0 0 0 0 0), (b 1, .inl (cI, 149, .inl (fun _ => 0))), (b 15, .inl (cZ, 80, .inl (fun _ => 0))), (b 16, .inl (cI, 7, .inl (fun _ => 0))), (b 21, .inl (cZ, 80, .inl (fun _ => 0))), (b 24, .inl (cI, 80, .inl (fun _ => 0))), (b 25, .inl (cI, 6, .inl (fun _ => 0))), (b 29, .inl (cI, 6, .inl (fun _ => 0))), (b 30, .inl (cZ, 1040, .inl (fun _ => 0))), (b 31, .inl (cI, 1040, .inl (fun _ => 0))), (b 32, .inl (cI, 78, .inl (fun _ => 0))), (b 27, .inl (cI, 7, .inl (fun _ => 0)))] sz (fun (r : Int32) (u : (Nat → Int32)) => r = (-2)) (fun u : (Nat → Int32) => [(h0, oX10 b 0 0 0 0 0 0 0 0 (-1) 0 0 (-1) 0 0 0 0 0 0), (b 1, .inl (cI, 149, .inl (fun _ => 0))), (b 15, .inl (cZ, 80, .inl (fun _ => 0))), (b 16, .inl (cI, 7, .inl (fun _ => 0))), (b 21, .inl (cZ, 80, .inl (fun _ => 0))), (b 24, .inl (cI, 80, .inl (fun _ => 0))), (b 25, .inl (cI, 6, .inl (fun _ => 0))), (b 29, .inl (cI, 6, .inl (fun _ => 0))), (b 30, .inl (cZ, 1040, .inl (fun _ => 0))), (b 31, .inl (cI, 1040, .inl (fun _ => 0))), (b 32, .inl (cI, 78, .inl (fun _ => 0))), (b 27, .inl (cI, 7, .inl u))]) 0 0 := by
  refine CI.go (cc := cX10_rings) (maxL := 2) (ret := (some .int)) (by decide) rfl (Nat.le_of_ble_eq_true rfl) ?_
  intro p e s m below meth c A ls Q hBd hret
  obtain ⟨hx, hb, hr, hml, hts, hown, hlk, hnm, hP, hK, hD, hA, hZ, hl⟩ := hBd
  have hown : s.vm.findClass RX10 = some m.cls := hown
  have hl : lv_has ls 2 [(0, .ref h0), (1, .int p0)] := hl
  have hS : va_S A s.heap s.heap [] := va_S.rf
  refine lv_aload_n hx hb dX10_rings_0 rfl (lv_at hl 0 rfl) ?_
  refine lv_iload_n hx hb dX10_rings_1 rfl (lv_at hl 1 rfl) ?_
  refine k_i (wc := [(h0, oX10 b 0 0 0 0 0 0 0 0 (-1) 0 0 0 0 0 0 0 0 0), (b 1, .inl (cI, 149, .inl (fun _ => 0))), (b 15, .inl (cZ, 80, .inl (fun _ => 0))), (b 16, .inl (cI, 7, .inl (fun _ => 0))), (b 21, .inl (cZ, 80, .inl (fun _ => 0))), (b 24, .inl (cI, 80, .inl (fun _ => 0))), (b 25, .inl (cI, 6, .inl (fun _ => 0))), (b 29, .inl (cI, 6, .inl (fun _ => 0))), (b 30, .inl (cZ, 1040, .inl (fun _ => 0))), (b 31, .inl (cI, 1040, .inl (fun _ => 0))), (b 32, .inl (cI, 78, .inl (fun _ => 0))), (b 27, .inl (cI, 7, .inl (fun _ => 0)))]) (wr := []) hP hD hS hA [0, 1, 2, 3, 4, 5, 6, 7, 8, 9, 10, 11] [] rfl rfl rfl (by decide) (va_runV (As := [.int p0]) (rest := []) ⟨hx, hb, hml, hown, hts⟩ (f_X10_asksYear l G cI cJ cZ cB cQ _ h0 b p0) (cwV 1 hts (gV w_1620 w_1622 wp_128 w_11 w_1623) rfl rfl rfl ⟨rfl, hd_X10_asksYear⟩ ⟨Nat.le_of_ble_eq_true rfl, Nat.le_of_ble_eq_true rfl⟩) (mV hK hZ hP hD [0, 1, 2, 3, 4, 5, 6, 7, 8, 9, 10, 11] rfl rfl [.int p0] 0 10 rfl rfl) rfl rfl hl.1 rfl (lv_room (Nat.le_of_ble_eq_true rfl)) dX10_rings_2 ⟨Nat.le_of_ble_eq_true rfl, Nat.le_of_ble_eq_true rfl⟩) (fun r1 u2 H locs hw3 hP hD hS => ?_)
  obtain ⟨f04, rfl⟩ : ∃ z, z = u2 := ⟨_, rfl⟩
  try dsimp only at hw3
  have hP : va_P G vwCl [(h0, oX10 b 0 0 0 0 0 0 0 0 (-1) 0 0 (-1) 0 0 0 0 0 0), (b 1, .inl (cI, 149, .inl (fun _ => 0))), (b 15, .inl (cZ, 80, .inl (fun _ => 0))), (b 16, .inl (cI, 7, .inl (fun _ => 0))), (b 21, .inl (cZ, 80, .inl (fun _ => 0))), (b 24, .inl (cI, 80, .inl (fun _ => 0))), (b 25, .inl (cI, 6, .inl (fun _ => 0))), (b 29, .inl (cI, 6, .inl (fun _ => 0))), (b 30, .inl (cZ, 1040, .inl (fun _ => 0))), (b 31, .inl (cI, 1040, .inl (fun _ => 0))), (b 32, .inl (cI, 78, .inl (fun _ => 0))), (b 27, .inl (cI, 7, .inl f04))] H := hP
  have hD : va_D A [(h0, oX10 b 0 0 0 0 0 0 0 0 (-1) 0 0 (-1) 0 0 0 0 0 0), (b 1, .inl (cI, 149, .inl (fun _ => 0))), (b 15, .inl (cZ, 80, .inl (fun _ => 0))), (b 16, .inl (cI, 7, .inl (fun _ => 0))), (b 21, .inl (cZ, 80, .inl (fun _ => 0))), (b 24, .inl (cI, 80, .inl (fun _ => 0))), (b 25, .inl (cI, 6, .inl (fun _ => 0))), (b 29, .inl (cI, 6, .inl (fun _ => 0))), (b 30, .inl (cZ, 1040, .inl (fun _ => 0))), (b 31, .inl (cI, 1040, .inl (fun _ => 0))), (b 32, .inl (cI, 78, .inl (fun _ => 0))), (b 27, .inl (cI, 7, .inl f04))] := hD
  obtain rfl : r1 = 0 := hw3
  refine lv_if_eq (tgt := 28) hx hb dX10_rings_5 (by decide) (fun c5 => ?_) (fun c5 => absurd (by decide) c5)
  refine lv_bipush (v := (-2)) hx hb dX10_rings_28 (by decide) ?_
  exact hret _ _ _ _ (-2) f04 hP hD hS dX10_rings_30 rfl
set_option maxHeartbeats 4000000 in
set_option maxRecDepth 100000 in
theorem f_X10_bridges (l : Launch) (G : va_G) (cI cJ cZ cB cQ : ClassId) (sz : Nat) (h0 : Nat) (b : Nat → Nat) (p0 : Int32) : CI l yX10_bridges (wl_ yX10_bridges cX10_bridges 6 (some .int)) ({ frames := 5, cells := 0, slots := 0, locals := 103 } : Room) G (TY cI cJ cZ cB cQ) [.ref h0, .int p0] [(h0, oX10 b 0 0 0 0 0 0 0 0 (-1) 0 0 0 0 0 0 0 0 0), (b 1, .inl (cI, 149, .inl (fun _ => 0))), (b 15, .inl (cZ, 80, .inl (fun _ => 0))), (b 16, .inl (cI, 7, .inl (fun _ => 0))), (b 21, .inl (cZ, 80, .inl (fun _ => 0))), (b 24, .inl (cI, 80, .inl (fun _ => 0))), (b 25, .inl (cI, 6, .inl (fun _ => 0))), (b 29, .inl (cI, 6, .inl (fun _ => 0))), (b 30, .inl (cZ, 1040, .inl (fun _ => 0))), (b 31, .inl (cI, 1040, .inl (fun _ => 0))), (b 32, .inl (cI, 78, .inl (fun _ => 0))), (b 27, .inl (cI, 7, .inl (fun _ => 0)))] sz (fun (r : Int32) (u : (Nat → Int32)) => r = (-2)) (fun u : (Nat → Int32) => [(h0, oX10 b 0 0 0 0 0 0 0 0 (-1) 0 0 (-1) 0 0 0 0 0 0), (b 1, .inl (cI, 149, .inl (fun _ => 0))), (b 15, .inl (cZ, 80, .inl (fun _ => 0))), (b 16, .inl (cI, 7, .inl (fun _ => 0))), (b 21, .inl (cZ, 80, .inl (fun _ => 0))), (b 24, .inl (cI, 80, .inl (fun _ => 0))), (b 25, .inl (cI, 6, .inl (fun _ => 0))), (b 29, .inl (cI, 6, .inl (fun _ => 0))), (b 30, .inl (cZ, 1040, .inl (fun _ => 0))), (b 31, .inl (cI, 1040, .inl (fun _ => 0))), (b 32, .inl (cI, 78, .inl (fun _ => 0))), (b 27, .inl (cI, 7, .inl u))]) 0 0 := by
  refine CI.go (cc := cX10_bridges) (maxL := 6) (ret := (some .int)) (by decide) rfl (Nat.le_of_ble_eq_true rfl) ?_
  intro p e s m below meth c A ls Q hBd hret
  obtain ⟨hx, hb, hr, hml, hts, hown, hlk, hnm, hP, hK, hD, hA, hZ, hl⟩ := hBd
  have hown : s.vm.findClass RX10 = some m.cls := hown
  have hl : lv_has ls 6 [(0, .ref h0), (1, .int p0)] := hl
  have hS : va_S A s.heap s.heap [] := va_S.rf
  refine lv_aload_n hx hb dX10_bridges_0 rfl (lv_at hl 0 rfl) ?_
  refine lv_iload_n hx hb dX10_bridges_1 rfl (lv_at hl 1 rfl) ?_
  refine k_i (wc := [(h0, oX10 b 0 0 0 0 0 0 0 0 (-1) 0 0 0 0 0 0 0 0 0), (b 1, .inl (cI, 149, .inl (fun _ => 0))), (b 15, .inl (cZ, 80, .inl (fun _ => 0))), (b 16, .inl (cI, 7, .inl (fun _ => 0))), (b 21, .inl (cZ, 80, .inl (fun _ => 0))), (b 24, .inl (cI, 80, .inl (fun _ => 0))), (b 25, .inl (cI, 6, .inl (fun _ => 0))), (b 29, .inl (cI, 6, .inl (fun _ => 0))), (b 30, .inl (cZ, 1040, .inl (fun _ => 0))), (b 31, .inl (cI, 1040, .inl (fun _ => 0))), (b 32, .inl (cI, 78, .inl (fun _ => 0))), (b 27, .inl (cI, 7, .inl (fun _ => 0)))]) (wr := []) hP hD hS hA [0, 1, 2, 3, 4, 5, 6, 7, 8, 9, 10, 11] [] rfl rfl rfl (by decide) (va_runV (As := [.int p0]) (rest := []) ⟨hx, hb, hml, hown, hts⟩ (f_X10_asksYear l G cI cJ cZ cB cQ _ h0 b p0) (cwV 1 hts (gV w_1620 w_1622 wp_128 w_11 w_1623) rfl rfl rfl ⟨rfl, hd_X10_asksYear⟩ ⟨Nat.le_of_ble_eq_true rfl, Nat.le_of_ble_eq_true rfl⟩) (mV hK hZ hP hD [0, 1, 2, 3, 4, 5, 6, 7, 8, 9, 10, 11] rfl rfl [.int p0] 0 10 rfl rfl) rfl rfl hl.1 rfl (lv_room (Nat.le_of_ble_eq_true rfl)) dX10_bridges_2 ⟨Nat.le_of_ble_eq_true rfl, Nat.le_of_ble_eq_true rfl⟩) (fun r1 u2 H locs hw3 hP hD hS => ?_)
  obtain ⟨f04, rfl⟩ : ∃ z, z = u2 := ⟨_, rfl⟩
  try dsimp only at hw3
  have hP : va_P G vwCl [(h0, oX10 b 0 0 0 0 0 0 0 0 (-1) 0 0 (-1) 0 0 0 0 0 0), (b 1, .inl (cI, 149, .inl (fun _ => 0))), (b 15, .inl (cZ, 80, .inl (fun _ => 0))), (b 16, .inl (cI, 7, .inl (fun _ => 0))), (b 21, .inl (cZ, 80, .inl (fun _ => 0))), (b 24, .inl (cI, 80, .inl (fun _ => 0))), (b 25, .inl (cI, 6, .inl (fun _ => 0))), (b 29, .inl (cI, 6, .inl (fun _ => 0))), (b 30, .inl (cZ, 1040, .inl (fun _ => 0))), (b 31, .inl (cI, 1040, .inl (fun _ => 0))), (b 32, .inl (cI, 78, .inl (fun _ => 0))), (b 27, .inl (cI, 7, .inl f04))] H := hP
  have hD : va_D A [(h0, oX10 b 0 0 0 0 0 0 0 0 (-1) 0 0 (-1) 0 0 0 0 0 0), (b 1, .inl (cI, 149, .inl (fun _ => 0))), (b 15, .inl (cZ, 80, .inl (fun _ => 0))), (b 16, .inl (cI, 7, .inl (fun _ => 0))), (b 21, .inl (cZ, 80, .inl (fun _ => 0))), (b 24, .inl (cI, 80, .inl (fun _ => 0))), (b 25, .inl (cI, 6, .inl (fun _ => 0))), (b 29, .inl (cI, 6, .inl (fun _ => 0))), (b 30, .inl (cZ, 1040, .inl (fun _ => 0))), (b 31, .inl (cI, 1040, .inl (fun _ => 0))), (b 32, .inl (cI, 78, .inl (fun _ => 0))), (b 27, .inl (cI, 7, .inl f04))] := hD
  obtain rfl : r1 = 0 := hw3
  refine lv_if_ne (tgt := 11) hx hb dX10_bridges_5 (by decide) (fun c5 => absurd (by decide) c5) (fun c5 => ?_)
  refine lv_bipush (v := (-2)) hx hb dX10_bridges_8 (by decide) ?_
  exact hret _ _ _ _ (-2) f04 hP hD hS dX10_bridges_10 rfl
set_option maxHeartbeats 4000000 in
set_option maxRecDepth 100000 in
theorem f_X10_net (l : Launch) (G : va_G) (cI cJ cZ cB cQ : ClassId) (sz : Nat) (h0 : Nat) (b : Nat → Nat) (p0 : Int32) (p1 : Int32) : CI l yX10_net (wl_ yX10_net cX10_net 3 (some .int)) ({ frames := 5, cells := 0, slots := 0, locals := 103 } : Room) G (TY cI cJ cZ cB cQ) [.ref h0, .int p0, .int p1] [(h0, oX10 b 0 0 0 0 0 0 0 0 (-1) 0 0 0 0 0 0 0 0 0), (b 1, .inl (cI, 149, .inl (fun _ => 0))), (b 15, .inl (cZ, 80, .inl (fun _ => 0))), (b 16, .inl (cI, 7, .inl (fun _ => 0))), (b 21, .inl (cZ, 80, .inl (fun _ => 0))), (b 24, .inl (cI, 80, .inl (fun _ => 0))), (b 25, .inl (cI, 6, .inl (fun _ => 0))), (b 29, .inl (cI, 6, .inl (fun _ => 0))), (b 30, .inl (cZ, 1040, .inl (fun _ => 0))), (b 31, .inl (cI, 1040, .inl (fun _ => 0))), (b 32, .inl (cI, 78, .inl (fun _ => 0))), (b 27, .inl (cI, 7, .inl (fun _ => 0)))] sz (fun (r : Int32) (u : (Nat → Int32)) => r = (-2)) (fun u : (Nat → Int32) => [(h0, oX10 b 0 0 0 0 0 0 0 0 (-1) 0 0 (-1) 0 0 0 0 0 0), (b 1, .inl (cI, 149, .inl (fun _ => 0))), (b 15, .inl (cZ, 80, .inl (fun _ => 0))), (b 16, .inl (cI, 7, .inl (fun _ => 0))), (b 21, .inl (cZ, 80, .inl (fun _ => 0))), (b 24, .inl (cI, 80, .inl (fun _ => 0))), (b 25, .inl (cI, 6, .inl (fun _ => 0))), (b 29, .inl (cI, 6, .inl (fun _ => 0))), (b 30, .inl (cZ, 1040, .inl (fun _ => 0))), (b 31, .inl (cI, 1040, .inl (fun _ => 0))), (b 32, .inl (cI, 78, .inl (fun _ => 0))), (b 27, .inl (cI, 7, .inl u))]) 0 0 := by
  refine CI.go (cc := cX10_net) (maxL := 3) (ret := (some .int)) (by decide) rfl (Nat.le_of_ble_eq_true rfl) ?_
  intro p e s m below meth c A ls Q hBd hret
  obtain ⟨hx, hb, hr, hml, hts, hown, hlk, hnm, hP, hK, hD, hA, hZ, hl⟩ := hBd
  have hown : s.vm.findClass RX10 = some m.cls := hown
  have hl : lv_has ls 3 [(0, .ref h0), (1, .int p0), (2, .int p1)] := hl
  have hS : va_S A s.heap s.heap [] := va_S.rf
  refine lv_aload_n hx hb dX10_net_0 rfl (lv_at hl 0 rfl) ?_
  refine lv_iload_n hx hb dX10_net_1 rfl (lv_at hl 2 rfl) ?_
  refine k_i (wc := [(h0, oX10 b 0 0 0 0 0 0 0 0 (-1) 0 0 0 0 0 0 0 0 0), (b 1, .inl (cI, 149, .inl (fun _ => 0))), (b 15, .inl (cZ, 80, .inl (fun _ => 0))), (b 16, .inl (cI, 7, .inl (fun _ => 0))), (b 21, .inl (cZ, 80, .inl (fun _ => 0))), (b 24, .inl (cI, 80, .inl (fun _ => 0))), (b 25, .inl (cI, 6, .inl (fun _ => 0))), (b 29, .inl (cI, 6, .inl (fun _ => 0))), (b 30, .inl (cZ, 1040, .inl (fun _ => 0))), (b 31, .inl (cI, 1040, .inl (fun _ => 0))), (b 32, .inl (cI, 78, .inl (fun _ => 0))), (b 27, .inl (cI, 7, .inl (fun _ => 0)))]) (wr := []) hP hD hS hA [0, 1, 2, 3, 4, 5, 6, 7, 8, 9, 10, 11] [] rfl rfl rfl (by decide) (va_runV (As := [.int p1]) (rest := []) ⟨hx, hb, hml, hown, hts⟩ (f_X10_asksYear l G cI cJ cZ cB cQ _ h0 b p1) (cwV 1 hts (gV w_1620 w_1622 wp_128 w_11 w_1623) rfl rfl rfl ⟨rfl, hd_X10_asksYear⟩ ⟨Nat.le_of_ble_eq_true rfl, Nat.le_of_ble_eq_true rfl⟩) (mV hK hZ hP hD [0, 1, 2, 3, 4, 5, 6, 7, 8, 9, 10, 11] rfl rfl [.int p1] 0 10 rfl rfl) rfl rfl hl.1 rfl (lv_room (Nat.le_of_ble_eq_true rfl)) dX10_net_2 ⟨Nat.le_of_ble_eq_true rfl, Nat.le_of_ble_eq_true rfl⟩) (fun r1 u2 H locs hw3 hP hD hS => ?_)
  obtain ⟨f04, rfl⟩ : ∃ z, z = u2 := ⟨_, rfl⟩
  try dsimp only at hw3
  have hP : va_P G vwCl [(h0, oX10 b 0 0 0 0 0 0 0 0 (-1) 0 0 (-1) 0 0 0 0 0 0), (b 1, .inl (cI, 149, .inl (fun _ => 0))), (b 15, .inl (cZ, 80, .inl (fun _ => 0))), (b 16, .inl (cI, 7, .inl (fun _ => 0))), (b 21, .inl (cZ, 80, .inl (fun _ => 0))), (b 24, .inl (cI, 80, .inl (fun _ => 0))), (b 25, .inl (cI, 6, .inl (fun _ => 0))), (b 29, .inl (cI, 6, .inl (fun _ => 0))), (b 30, .inl (cZ, 1040, .inl (fun _ => 0))), (b 31, .inl (cI, 1040, .inl (fun _ => 0))), (b 32, .inl (cI, 78, .inl (fun _ => 0))), (b 27, .inl (cI, 7, .inl f04))] H := hP
  have hD : va_D A [(h0, oX10 b 0 0 0 0 0 0 0 0 (-1) 0 0 (-1) 0 0 0 0 0 0), (b 1, .inl (cI, 149, .inl (fun _ => 0))), (b 15, .inl (cZ, 80, .inl (fun _ => 0))), (b 16, .inl (cI, 7, .inl (fun _ => 0))), (b 21, .inl (cZ, 80, .inl (fun _ => 0))), (b 24, .inl (cI, 80, .inl (fun _ => 0))), (b 25, .inl (cI, 6, .inl (fun _ => 0))), (b 29, .inl (cI, 6, .inl (fun _ => 0))), (b 30, .inl (cZ, 1040, .inl (fun _ => 0))), (b 31, .inl (cI, 1040, .inl (fun _ => 0))), (b 32, .inl (cI, 78, .inl (fun _ => 0))), (b 27, .inl (cI, 7, .inl f04))] := hD
  obtain rfl : r1 = 0 := hw3
  refine lv_if_eq (tgt := 26) hx hb dX10_net_5 (by decide) (fun c5 => ?_) (fun c5 => absurd (by decide) c5)
  refine lv_bipush (v := (-2)) hx hb dX10_net_26 (by decide) ?_
  exact hret _ _ _ _ (-2) f04 hP hD hS dX10_net_28 rfl
set_option maxHeartbeats 4000000 in
set_option maxRecDepth 100000 in
theorem f_X10_way (l : Launch) (G : va_G) (cI cJ cZ cB cQ : ClassId) (sz : Nat) (h0 : Nat) (b : Nat → Nat) (p0 : Int32) (p1 : Int32) (p2 : Int32) : CI l yX10_way (wl_ yX10_way cX10_way 4 (some .int)) ({ frames := 5, cells := 0, slots := 0, locals := 103 } : Room) G (TY cI cJ cZ cB cQ) [.ref h0, .int p0, .int p1, .int p2] [(h0, oX10 b 0 0 0 0 0 0 0 0 (-1) 0 0 0 0 0 0 0 0 0), (b 1, .inl (cI, 149, .inl (fun _ => 0))), (b 15, .inl (cZ, 80, .inl (fun _ => 0))), (b 16, .inl (cI, 7, .inl (fun _ => 0))), (b 21, .inl (cZ, 80, .inl (fun _ => 0))), (b 24, .inl (cI, 80, .inl (fun _ => 0))), (b 25, .inl (cI, 6, .inl (fun _ => 0))), (b 29, .inl (cI, 6, .inl (fun _ => 0))), (b 30, .inl (cZ, 1040, .inl (fun _ => 0))), (b 31, .inl (cI, 1040, .inl (fun _ => 0))), (b 32, .inl (cI, 78, .inl (fun _ => 0))), (b 27, .inl (cI, 7, .inl (fun _ => 0)))] sz (fun (r : Int32) (u : (Nat → Int32)) => r = (-2)) (fun u : (Nat → Int32) => [(h0, oX10 b 0 0 0 0 0 0 0 0 (-1) 0 0 (-1) 0 0 0 0 0 0), (b 1, .inl (cI, 149, .inl (fun _ => 0))), (b 15, .inl (cZ, 80, .inl (fun _ => 0))), (b 16, .inl (cI, 7, .inl (fun _ => 0))), (b 21, .inl (cZ, 80, .inl (fun _ => 0))), (b 24, .inl (cI, 80, .inl (fun _ => 0))), (b 25, .inl (cI, 6, .inl (fun _ => 0))), (b 29, .inl (cI, 6, .inl (fun _ => 0))), (b 30, .inl (cZ, 1040, .inl (fun _ => 0))), (b 31, .inl (cI, 1040, .inl (fun _ => 0))), (b 32, .inl (cI, 78, .inl (fun _ => 0))), (b 27, .inl (cI, 7, .inl u))]) 0 0 := by
  refine CI.go (cc := cX10_way) (maxL := 4) (ret := (some .int)) (by decide) rfl (Nat.le_of_ble_eq_true rfl) ?_
  intro p e s m below meth c A ls Q hBd hret
  obtain ⟨hx, hb, hr, hml, hts, hown, hlk, hnm, hP, hK, hD, hA, hZ, hl⟩ := hBd
  have hown : s.vm.findClass RX10 = some m.cls := hown
  have hl : lv_has ls 4 [(0, .ref h0), (1, .int p0), (2, .int p1), (3, .int p2)] := hl
  have hS : va_S A s.heap s.heap [] := va_S.rf
  refine lv_aload_n hx hb dX10_way_0 rfl (lv_at hl 0 rfl) ?_
  refine lv_iload_n hx hb dX10_way_1 rfl (lv_at hl 3 rfl) ?_
  refine k_i (wc := [(h0, oX10 b 0 0 0 0 0 0 0 0 (-1) 0 0 0 0 0 0 0 0 0), (b 1, .inl (cI, 149, .inl (fun _ => 0))), (b 15, .inl (cZ, 80, .inl (fun _ => 0))), (b 16, .inl (cI, 7, .inl (fun _ => 0))), (b 21, .inl (cZ, 80, .inl (fun _ => 0))), (b 24, .inl (cI, 80, .inl (fun _ => 0))), (b 25, .inl (cI, 6, .inl (fun _ => 0))), (b 29, .inl (cI, 6, .inl (fun _ => 0))), (b 30, .inl (cZ, 1040, .inl (fun _ => 0))), (b 31, .inl (cI, 1040, .inl (fun _ => 0))), (b 32, .inl (cI, 78, .inl (fun _ => 0))), (b 27, .inl (cI, 7, .inl (fun _ => 0)))]) (wr := []) hP hD hS hA [0, 1, 2, 3, 4, 5, 6, 7, 8, 9, 10, 11] [] rfl rfl rfl (by decide) (va_runV (As := [.int p2]) (rest := []) ⟨hx, hb, hml, hown, hts⟩ (f_X10_asksYear l G cI cJ cZ cB cQ _ h0 b p2) (cwV 1 hts (gV w_1620 w_1622 wp_128 w_11 w_1623) rfl rfl rfl ⟨rfl, hd_X10_asksYear⟩ ⟨Nat.le_of_ble_eq_true rfl, Nat.le_of_ble_eq_true rfl⟩) (mV hK hZ hP hD [0, 1, 2, 3, 4, 5, 6, 7, 8, 9, 10, 11] rfl rfl [.int p2] 0 10 rfl rfl) rfl rfl hl.1 rfl (lv_room (Nat.le_of_ble_eq_true rfl)) dX10_way_2 ⟨Nat.le_of_ble_eq_true rfl, Nat.le_of_ble_eq_true rfl⟩) (fun r1 u2 H locs hw3 hP hD hS => ?_)
  obtain ⟨f04, rfl⟩ : ∃ z, z = u2 := ⟨_, rfl⟩
  try dsimp only at hw3
  have hP : va_P G vwCl [(h0, oX10 b 0 0 0 0 0 0 0 0 (-1) 0 0 (-1) 0 0 0 0 0 0), (b 1, .inl (cI, 149, .inl (fun _ => 0))), (b 15, .inl (cZ, 80, .inl (fun _ => 0))), (b 16, .inl (cI, 7, .inl (fun _ => 0))), (b 21, .inl (cZ, 80, .inl (fun _ => 0))), (b 24, .inl (cI, 80, .inl (fun _ => 0))), (b 25, .inl (cI, 6, .inl (fun _ => 0))), (b 29, .inl (cI, 6, .inl (fun _ => 0))), (b 30, .inl (cZ, 1040, .inl (fun _ => 0))), (b 31, .inl (cI, 1040, .inl (fun _ => 0))), (b 32, .inl (cI, 78, .inl (fun _ => 0))), (b 27, .inl (cI, 7, .inl f04))] H := hP
  have hD : va_D A [(h0, oX10 b 0 0 0 0 0 0 0 0 (-1) 0 0 (-1) 0 0 0 0 0 0), (b 1, .inl (cI, 149, .inl (fun _ => 0))), (b 15, .inl (cZ, 80, .inl (fun _ => 0))), (b 16, .inl (cI, 7, .inl (fun _ => 0))), (b 21, .inl (cZ, 80, .inl (fun _ => 0))), (b 24, .inl (cI, 80, .inl (fun _ => 0))), (b 25, .inl (cI, 6, .inl (fun _ => 0))), (b 29, .inl (cI, 6, .inl (fun _ => 0))), (b 30, .inl (cZ, 1040, .inl (fun _ => 0))), (b 31, .inl (cI, 1040, .inl (fun _ => 0))), (b 32, .inl (cI, 78, .inl (fun _ => 0))), (b 27, .inl (cI, 7, .inl f04))] := hD
  obtain rfl : r1 = 0 := hw3
  refine lv_if_eq (tgt := 26) hx hb dX10_way_5 (by decide) (fun c5 => ?_) (fun c5 => absurd (by decide) c5)
  refine lv_bipush (v := (-2)) hx hb dX10_way_26 (by decide) ?_
  exact hret _ _ _ _ (-2) f04 hP hD hS dX10_way_28 rfl
set_option maxHeartbeats 4000000 in
set_option maxRecDepth 100000 in
theorem f_X10_beeline (l : Launch) (G : va_G) (cI cJ cZ cB cQ : ClassId) (sz : Nat) (h0 : Nat) (b : Nat → Nat) (p0 : Int32) (p1 : Int32) : CI l yX10_beeline (wl_ yX10_beeline cX10_beeline 3 (some .int)) ({ frames := 5, cells := 0, slots := 0, locals := 103 } : Room) G (TY cI cJ cZ cB cQ) [.ref h0, .int p0, .int p1] [(h0, oX10 b 0 0 0 0 0 0 0 0 (-1) 0 0 0 0 0 0 0 0 0), (b 1, .inl (cI, 149, .inl (fun _ => 0))), (b 15, .inl (cZ, 80, .inl (fun _ => 0))), (b 16, .inl (cI, 7, .inl (fun _ => 0))), (b 21, .inl (cZ, 80, .inl (fun _ => 0))), (b 24, .inl (cI, 80, .inl (fun _ => 0))), (b 25, .inl (cI, 6, .inl (fun _ => 0))), (b 29, .inl (cI, 6, .inl (fun _ => 0))), (b 30, .inl (cZ, 1040, .inl (fun _ => 0))), (b 31, .inl (cI, 1040, .inl (fun _ => 0))), (b 32, .inl (cI, 78, .inl (fun _ => 0))), (b 27, .inl (cI, 7, .inl (fun _ => 0)))] sz (fun (r : Int32) (u : (Nat → Int32)) => r = (-2)) (fun u : (Nat → Int32) => [(h0, oX10 b 0 0 0 0 0 0 0 0 (-1) 0 0 (-1) 0 0 0 0 0 0), (b 1, .inl (cI, 149, .inl (fun _ => 0))), (b 15, .inl (cZ, 80, .inl (fun _ => 0))), (b 16, .inl (cI, 7, .inl (fun _ => 0))), (b 21, .inl (cZ, 80, .inl (fun _ => 0))), (b 24, .inl (cI, 80, .inl (fun _ => 0))), (b 25, .inl (cI, 6, .inl (fun _ => 0))), (b 29, .inl (cI, 6, .inl (fun _ => 0))), (b 30, .inl (cZ, 1040, .inl (fun _ => 0))), (b 31, .inl (cI, 1040, .inl (fun _ => 0))), (b 32, .inl (cI, 78, .inl (fun _ => 0))), (b 27, .inl (cI, 7, .inl u))]) 0 0 := by
  refine CI.go (cc := cX10_beeline) (maxL := 3) (ret := (some .int)) (by decide) rfl (Nat.le_of_ble_eq_true rfl) ?_
  intro p e s m below meth c A ls Q hBd hret
  obtain ⟨hx, hb, hr, hml, hts, hown, hlk, hnm, hP, hK, hD, hA, hZ, hl⟩ := hBd
  have hown : s.vm.findClass RX10 = some m.cls := hown
  have hl : lv_has ls 3 [(0, .ref h0), (1, .int p0), (2, .int p1)] := hl
  have hS : va_S A s.heap s.heap [] := va_S.rf
  refine lv_aload_n hx hb dX10_beeline_0 rfl (lv_at hl 0 rfl) ?_
  refine lv_iload_n hx hb dX10_beeline_1 rfl (lv_at hl 1 rfl) ?_
  refine k_i (wc := [(h0, oX10 b 0 0 0 0 0 0 0 0 (-1) 0 0 0 0 0 0 0 0 0), (b 1, .inl (cI, 149, .inl (fun _ => 0))), (b 15, .inl (cZ, 80, .inl (fun _ => 0))), (b 16, .inl (cI, 7, .inl (fun _ => 0))), (b 21, .inl (cZ, 80, .inl (fun _ => 0))), (b 24, .inl (cI, 80, .inl (fun _ => 0))), (b 25, .inl (cI, 6, .inl (fun _ => 0))), (b 29, .inl (cI, 6, .inl (fun _ => 0))), (b 30, .inl (cZ, 1040, .inl (fun _ => 0))), (b 31, .inl (cI, 1040, .inl (fun _ => 0))), (b 32, .inl (cI, 78, .inl (fun _ => 0))), (b 27, .inl (cI, 7, .inl (fun _ => 0)))]) (wr := []) hP hD hS hA [0, 1, 2, 3, 4, 5, 6, 7, 8, 9, 10, 11] [] rfl rfl rfl (by decide) (va_runV (As := [.int p0]) (rest := []) ⟨hx, hb, hml, hown, hts⟩ (f_X10_asksCell l G cI cJ cZ cB cQ _ h0 b p0) (cwV 1 hts (gV w_1481 w_1483 wp_104 w_11 w_1484) rfl rfl rfl ⟨rfl, hd_X10_asksCell⟩ ⟨Nat.le_of_ble_eq_true rfl, Nat.le_of_ble_eq_true rfl⟩) (mV hK hZ hP hD [0, 1, 2, 3, 4, 5, 6, 7, 8, 9, 10, 11] rfl rfl [.int p0] 0 10 rfl rfl) rfl rfl hl.1 rfl (lv_room (Nat.le_of_ble_eq_true rfl)) dX10_beeline_2 ⟨Nat.le_of_ble_eq_true rfl, Nat.le_of_ble_eq_true rfl⟩) (fun r1 u2 H locs hw3 hP hD hS => ?_)
  obtain ⟨f04, rfl⟩ : ∃ z, z = u2 := ⟨_, rfl⟩
  try dsimp only at hw3
  have hP : va_P G vwCl [(h0, oX10 b 0 0 0 0 0 0 0 0 (-1) 0 0 (-1) 0 0 0 0 0 0), (b 1, .inl (cI, 149, .inl (fun _ => 0))), (b 15, .inl (cZ, 80, .inl (fun _ => 0))), (b 16, .inl (cI, 7, .inl (fun _ => 0))), (b 21, .inl (cZ, 80, .inl (fun _ => 0))), (b 24, .inl (cI, 80, .inl (fun _ => 0))), (b 25, .inl (cI, 6, .inl (fun _ => 0))), (b 29, .inl (cI, 6, .inl (fun _ => 0))), (b 30, .inl (cZ, 1040, .inl (fun _ => 0))), (b 31, .inl (cI, 1040, .inl (fun _ => 0))), (b 32, .inl (cI, 78, .inl (fun _ => 0))), (b 27, .inl (cI, 7, .inl f04))] H := hP
  have hD : va_D A [(h0, oX10 b 0 0 0 0 0 0 0 0 (-1) 0 0 (-1) 0 0 0 0 0 0), (b 1, .inl (cI, 149, .inl (fun _ => 0))), (b 15, .inl (cZ, 80, .inl (fun _ => 0))), (b 16, .inl (cI, 7, .inl (fun _ => 0))), (b 21, .inl (cZ, 80, .inl (fun _ => 0))), (b 24, .inl (cI, 80, .inl (fun _ => 0))), (b 25, .inl (cI, 6, .inl (fun _ => 0))), (b 29, .inl (cI, 6, .inl (fun _ => 0))), (b 30, .inl (cZ, 1040, .inl (fun _ => 0))), (b 31, .inl (cI, 1040, .inl (fun _ => 0))), (b 32, .inl (cI, 78, .inl (fun _ => 0))), (b 27, .inl (cI, 7, .inl f04))] := hD
  obtain rfl : r1 = 0 := hw3
  refine lv_if_eq (tgt := 26) hx hb dX10_beeline_5 (by decide) (fun c5 => ?_) (fun c5 => absurd (by decide) c5)
  refine lv_bipush (v := (-2)) hx hb dX10_beeline_26 (by decide) ?_
  exact hret _ _ _ _ (-2) f04 hP hD hS dX10_beeline_28 rfl
set_option maxHeartbeats 4000000 in
set_option maxRecDepth 100000 in
theorem f_X10_farthest (l : Launch) (G : va_G) (cI cJ cZ cB cQ : ClassId) (sz : Nat) (h0 : Nat) (b : Nat → Nat) (p0 : Int32) (p1 : Int32) : CI l yX10_farthest (wl_ yX10_farthest cX10_farthest 5 (some .int)) ({ frames := 5, cells := 0, slots := 0, locals := 103 } : Room) G (TY cI cJ cZ cB cQ) [.ref h0, .int p0, .int p1] [(h0, oX10 b 0 0 0 0 0 0 0 0 (-1) 0 0 0 0 0 0 0 0 0), (b 1, .inl (cI, 149, .inl (fun _ => 0))), (b 15, .inl (cZ, 80, .inl (fun _ => 0))), (b 16, .inl (cI, 7, .inl (fun _ => 0))), (b 21, .inl (cZ, 80, .inl (fun _ => 0))), (b 24, .inl (cI, 80, .inl (fun _ => 0))), (b 25, .inl (cI, 6, .inl (fun _ => 0))), (b 29, .inl (cI, 6, .inl (fun _ => 0))), (b 30, .inl (cZ, 1040, .inl (fun _ => 0))), (b 31, .inl (cI, 1040, .inl (fun _ => 0))), (b 32, .inl (cI, 78, .inl (fun _ => 0))), (b 27, .inl (cI, 7, .inl (fun _ => 0)))] sz (fun (r : Int32) (u : (Nat → Int32)) => r = (-2)) (fun u : (Nat → Int32) => [(h0, oX10 b 0 0 0 0 0 0 0 0 (-1) 0 0 (-1) 0 0 0 0 0 0), (b 1, .inl (cI, 149, .inl (fun _ => 0))), (b 15, .inl (cZ, 80, .inl (fun _ => 0))), (b 16, .inl (cI, 7, .inl (fun _ => 0))), (b 21, .inl (cZ, 80, .inl (fun _ => 0))), (b 24, .inl (cI, 80, .inl (fun _ => 0))), (b 25, .inl (cI, 6, .inl (fun _ => 0))), (b 29, .inl (cI, 6, .inl (fun _ => 0))), (b 30, .inl (cZ, 1040, .inl (fun _ => 0))), (b 31, .inl (cI, 1040, .inl (fun _ => 0))), (b 32, .inl (cI, 78, .inl (fun _ => 0))), (b 27, .inl (cI, 7, .inl u))]) 0 0 := by
  refine CI.go (cc := cX10_farthest) (maxL := 5) (ret := (some .int)) (by decide) rfl (Nat.le_of_ble_eq_true rfl) ?_
  intro p e s m below meth c A ls Q hBd hret
  obtain ⟨hx, hb, hr, hml, hts, hown, hlk, hnm, hP, hK, hD, hA, hZ, hl⟩ := hBd
  have hown : s.vm.findClass RX10 = some m.cls := hown
  have hl : lv_has ls 5 [(0, .ref h0), (1, .int p0), (2, .int p1)] := hl
  have hS : va_S A s.heap s.heap [] := va_S.rf
  refine lv_aload_n hx hb dX10_farthest_0 rfl (lv_at hl 0 rfl) ?_
  refine lv_iload_n hx hb dX10_farthest_1 rfl (lv_at hl 2 rfl) ?_
  refine k_i (wc := [(h0, oX10 b 0 0 0 0 0 0 0 0 (-1) 0 0 0 0 0 0 0 0 0), (b 1, .inl (cI, 149, .inl (fun _ => 0))), (b 15, .inl (cZ, 80, .inl (fun _ => 0))), (b 16, .inl (cI, 7, .inl (fun _ => 0))), (b 21, .inl (cZ, 80, .inl (fun _ => 0))), (b 24, .inl (cI, 80, .inl (fun _ => 0))), (b 25, .inl (cI, 6, .inl (fun _ => 0))), (b 29, .inl (cI, 6, .inl (fun _ => 0))), (b 30, .inl (cZ, 1040, .inl (fun _ => 0))), (b 31, .inl (cI, 1040, .inl (fun _ => 0))), (b 32, .inl (cI, 78, .inl (fun _ => 0))), (b 27, .inl (cI, 7, .inl (fun _ => 0)))]) (wr := []) hP hD hS hA [0, 1, 2, 3, 4, 5, 6, 7, 8, 9, 10, 11] [] rfl rfl rfl (by decide) (va_runV (As := [.int p1]) (rest := []) ⟨hx, hb, hml, hown, hts⟩ (f_X10_asksYear l G cI cJ cZ cB cQ _ h0 b p1) (cwV 1 hts (gV w_1620 w_1622 wp_128 w_11 w_1623) rfl rfl rfl ⟨rfl, hd_X10_asksYear⟩ ⟨Nat.le_of_ble_eq_true rfl, Nat.le_of_ble_eq_true rfl⟩) (mV hK hZ hP hD [0, 1, 2, 3, 4, 5, 6, 7, 8, 9, 10, 11] rfl rfl [.int p1] 0 10 rfl rfl) rfl rfl hl.1 rfl (lv_room (Nat.le_of_ble_eq_true rfl)) dX10_farthest_2 ⟨Nat.le_of_ble_eq_true rfl, Nat.le_of_ble_eq_true rfl⟩) (fun r1 u2 H locs hw3 hP hD hS => ?_)
  obtain ⟨f04, rfl⟩ : ∃ z, z = u2 := ⟨_, rfl⟩
  try dsimp only at hw3
  have hP : va_P G vwCl [(h0, oX10 b 0 0 0 0 0 0 0 0 (-1) 0 0 (-1) 0 0 0 0 0 0), (b 1, .inl (cI, 149, .inl (fun _ => 0))), (b 15, .inl (cZ, 80, .inl (fun _ => 0))), (b 16, .inl (cI, 7, .inl (fun _ => 0))), (b 21, .inl (cZ, 80, .inl (fun _ => 0))), (b 24, .inl (cI, 80, .inl (fun _ => 0))), (b 25, .inl (cI, 6, .inl (fun _ => 0))), (b 29, .inl (cI, 6, .inl (fun _ => 0))), (b 30, .inl (cZ, 1040, .inl (fun _ => 0))), (b 31, .inl (cI, 1040, .inl (fun _ => 0))), (b 32, .inl (cI, 78, .inl (fun _ => 0))), (b 27, .inl (cI, 7, .inl f04))] H := hP
  have hD : va_D A [(h0, oX10 b 0 0 0 0 0 0 0 0 (-1) 0 0 (-1) 0 0 0 0 0 0), (b 1, .inl (cI, 149, .inl (fun _ => 0))), (b 15, .inl (cZ, 80, .inl (fun _ => 0))), (b 16, .inl (cI, 7, .inl (fun _ => 0))), (b 21, .inl (cZ, 80, .inl (fun _ => 0))), (b 24, .inl (cI, 80, .inl (fun _ => 0))), (b 25, .inl (cI, 6, .inl (fun _ => 0))), (b 29, .inl (cI, 6, .inl (fun _ => 0))), (b 30, .inl (cZ, 1040, .inl (fun _ => 0))), (b 31, .inl (cI, 1040, .inl (fun _ => 0))), (b 32, .inl (cI, 78, .inl (fun _ => 0))), (b 27, .inl (cI, 7, .inl f04))] := hD
  obtain rfl : r1 = 0 := hw3
  refine lv_if_eq (tgt := 17) hx hb dX10_farthest_5 (by decide) (fun c5 => ?_) (fun c5 => absurd (by decide) c5)
  refine lv_bipush (v := (-2)) hx hb dX10_farthest_17 (by decide) ?_
  exact hret _ _ _ _ (-2) f04 hP hD hS dX10_farthest_19 rfl
set_option maxHeartbeats 4000000 in
set_option maxRecDepth 100000 in
theorem f_X10_crossing (l : Launch) (G : va_G) (cI cJ cZ cB cQ : ClassId) (sz : Nat) (h0 : Nat) (b : Nat → Nat) : CI l yX10_crossing (wl_ yX10_crossing cX10_crossing 3 (some .int)) ({ frames := 4, cells := 0, slots := 0, locals := 82 } : Room) G (TY cI cJ cZ cB cQ) [.ref h0] [(h0, oX10 b 0 0 0 0 0 0 0 0 (-1) 0 0 0 0 0 0 0 0 0), (b 1, .inl (cI, 149, .inl (fun _ => 0))), (b 15, .inl (cZ, 80, .inl (fun _ => 0))), (b 16, .inl (cI, 7, .inl (fun _ => 0))), (b 21, .inl (cZ, 80, .inl (fun _ => 0))), (b 24, .inl (cI, 80, .inl (fun _ => 0))), (b 25, .inl (cI, 6, .inl (fun _ => 0))), (b 29, .inl (cI, 6, .inl (fun _ => 0))), (b 30, .inl (cZ, 1040, .inl (fun _ => 0))), (b 31, .inl (cI, 1040, .inl (fun _ => 0))), (b 32, .inl (cI, 78, .inl (fun _ => 0))), (b 27, .inl (cI, 7, .inl (fun _ => 0)))] sz (fun (r : Int32) (u : (Nat → Int32)) => r = (-2)) (fun u : (Nat → Int32) => [(h0, oX10 b 0 0 0 0 0 0 0 0 (-1) 0 0 (-1) 0 0 0 0 0 0), (b 1, .inl (cI, 149, .inl (fun _ => 0))), (b 15, .inl (cZ, 80, .inl (fun _ => 0))), (b 16, .inl (cI, 7, .inl (fun _ => 0))), (b 21, .inl (cZ, 80, .inl (fun _ => 0))), (b 24, .inl (cI, 80, .inl (fun _ => 0))), (b 25, .inl (cI, 6, .inl (fun _ => 0))), (b 29, .inl (cI, 6, .inl (fun _ => 0))), (b 30, .inl (cZ, 1040, .inl (fun _ => 0))), (b 31, .inl (cI, 1040, .inl (fun _ => 0))), (b 32, .inl (cI, 78, .inl (fun _ => 0))), (b 27, .inl (cI, 7, .inl u))]) 0 0 := by
  refine CI.go (cc := cX10_crossing) (maxL := 3) (ret := (some .int)) (by decide) rfl (Nat.le_of_ble_eq_true rfl) ?_
  intro p e s m below meth c A ls Q hBd hret
  obtain ⟨hx, hb, hr, hml, hts, hown, hlk, hnm, hP, hK, hD, hA, hZ, hl⟩ := hBd
  have hown : s.vm.findClass RX10 = some m.cls := hown
  have hl : lv_has ls 3 [(0, .ref h0)] := hl
  have hS : va_S A s.heap s.heap [] := va_S.rf
  refine lv_aload_n hx hb dX10_crossing_0 rfl (lv_at hl 0 rfl) ?_
  refine k_i (wc := [(h0, oX10 b 0 0 0 0 0 0 0 0 (-1) 0 0 0 0 0 0 0 0 0), (b 1, .inl (cI, 149, .inl (fun _ => 0))), (b 15, .inl (cZ, 80, .inl (fun _ => 0))), (b 16, .inl (cI, 7, .inl (fun _ => 0))), (b 21, .inl (cZ, 80, .inl (fun _ => 0))), (b 24, .inl (cI, 80, .inl (fun _ => 0))), (b 25, .inl (cI, 6, .inl (fun _ => 0))), (b 29, .inl (cI, 6, .inl (fun _ => 0))), (b 30, .inl (cZ, 1040, .inl (fun _ => 0))), (b 31, .inl (cI, 1040, .inl (fun _ => 0))), (b 32, .inl (cI, 78, .inl (fun _ => 0))), (b 27, .inl (cI, 7, .inl (fun _ => 0)))]) (wr := []) hP hD hS hA [0, 1, 2, 3, 4, 5, 6, 7, 8, 9, 10, 11] [] rfl rfl rfl (by decide) (va_runV (As := []) (rest := []) ⟨hx, hb, hml, hown, hts⟩ (f_X10_asksColony l G cI cJ cZ cB cQ _ h0 b) (cwV 0 hts (gV w_1485 w_1487 wp_105 w_11 w_1488) rfl rfl rfl ⟨rfl, hd_X10_asksColony⟩ ⟨Nat.le_of_ble_eq_true rfl, Nat.le_of_ble_eq_true rfl⟩) (mV hK hZ hP hD [0, 1, 2, 3, 4, 5, 6, 7, 8, 9, 10, 11] rfl rfl [] 0 10 rfl rfl) rfl rfl hl.1 rfl (lv_room (Nat.le_of_ble_eq_true rfl)) dX10_crossing_1 ⟨Nat.le_of_ble_eq_true rfl, Nat.le_of_ble_eq_true rfl⟩) (fun r1 u2 H locs hw3 hP hD hS => ?_)
  obtain ⟨f04, rfl⟩ : ∃ z, z = u2 := ⟨_, rfl⟩
  try dsimp only at hw3
  have hP : va_P G vwCl [(h0, oX10 b 0 0 0 0 0 0 0 0 (-1) 0 0 (-1) 0 0 0 0 0 0), (b 1, .inl (cI, 149, .inl (fun _ => 0))), (b 15, .inl (cZ, 80, .inl (fun _ => 0))), (b 16, .inl (cI, 7, .inl (fun _ => 0))), (b 21, .inl (cZ, 80, .inl (fun _ => 0))), (b 24, .inl (cI, 80, .inl (fun _ => 0))), (b 25, .inl (cI, 6, .inl (fun _ => 0))), (b 29, .inl (cI, 6, .inl (fun _ => 0))), (b 30, .inl (cZ, 1040, .inl (fun _ => 0))), (b 31, .inl (cI, 1040, .inl (fun _ => 0))), (b 32, .inl (cI, 78, .inl (fun _ => 0))), (b 27, .inl (cI, 7, .inl f04))] H := hP
  have hD : va_D A [(h0, oX10 b 0 0 0 0 0 0 0 0 (-1) 0 0 (-1) 0 0 0 0 0 0), (b 1, .inl (cI, 149, .inl (fun _ => 0))), (b 15, .inl (cZ, 80, .inl (fun _ => 0))), (b 16, .inl (cI, 7, .inl (fun _ => 0))), (b 21, .inl (cZ, 80, .inl (fun _ => 0))), (b 24, .inl (cI, 80, .inl (fun _ => 0))), (b 25, .inl (cI, 6, .inl (fun _ => 0))), (b 29, .inl (cI, 6, .inl (fun _ => 0))), (b 30, .inl (cZ, 1040, .inl (fun _ => 0))), (b 31, .inl (cI, 1040, .inl (fun _ => 0))), (b 32, .inl (cI, 78, .inl (fun _ => 0))), (b 27, .inl (cI, 7, .inl f04))] := hD
  obtain rfl : r1 = 0 := hw3
  refine lv_if_ne (tgt := 10) hx hb dX10_crossing_4 (by decide) (fun c5 => absurd (by decide) c5) (fun c5 => ?_)
  refine lv_bipush (v := (-2)) hx hb dX10_crossing_7 (by decide) ?_
  exact hret _ _ _ _ (-2) f04 hP hD hS dX10_crossing_9 rfl
set_option maxHeartbeats 4000000 in
set_option maxRecDepth 100000 in
theorem f_X10_shared (l : Launch) (G : va_G) (cI cJ cZ cB cQ : ClassId) (sz : Nat) (h0 : Nat) (b : Nat → Nat) (p0 : Int32) (p1 : Int32) : CI l yX10_shared (wl_ yX10_shared cX10_shared 5 (some .int)) ({ frames := 5, cells := 0, slots := 0, locals := 103 } : Room) G (TY cI cJ cZ cB cQ) [.ref h0, .int p0, .int p1] [(h0, oX10 b 0 0 0 0 0 0 0 0 (-1) 0 0 0 0 0 0 0 0 0), (b 1, .inl (cI, 149, .inl (fun _ => 0))), (b 15, .inl (cZ, 80, .inl (fun _ => 0))), (b 16, .inl (cI, 7, .inl (fun _ => 0))), (b 21, .inl (cZ, 80, .inl (fun _ => 0))), (b 24, .inl (cI, 80, .inl (fun _ => 0))), (b 25, .inl (cI, 6, .inl (fun _ => 0))), (b 29, .inl (cI, 6, .inl (fun _ => 0))), (b 30, .inl (cZ, 1040, .inl (fun _ => 0))), (b 31, .inl (cI, 1040, .inl (fun _ => 0))), (b 32, .inl (cI, 78, .inl (fun _ => 0))), (b 27, .inl (cI, 7, .inl (fun _ => 0)))] sz (fun (r : Int32) (u : (Nat → Int32)) => r = (-2)) (fun u : (Nat → Int32) => [(h0, oX10 b 0 0 0 0 0 0 0 0 (-1) 0 0 (-1) 0 0 0 0 0 0), (b 1, .inl (cI, 149, .inl (fun _ => 0))), (b 15, .inl (cZ, 80, .inl (fun _ => 0))), (b 16, .inl (cI, 7, .inl (fun _ => 0))), (b 21, .inl (cZ, 80, .inl (fun _ => 0))), (b 24, .inl (cI, 80, .inl (fun _ => 0))), (b 25, .inl (cI, 6, .inl (fun _ => 0))), (b 29, .inl (cI, 6, .inl (fun _ => 0))), (b 30, .inl (cZ, 1040, .inl (fun _ => 0))), (b 31, .inl (cI, 1040, .inl (fun _ => 0))), (b 32, .inl (cI, 78, .inl (fun _ => 0))), (b 27, .inl (cI, 7, .inl u))]) 0 0 := by
  refine CI.go (cc := cX10_shared) (maxL := 5) (ret := (some .int)) (by decide) rfl (Nat.le_of_ble_eq_true rfl) ?_
  intro p e s m below meth c A ls Q hBd hret
  obtain ⟨hx, hb, hr, hml, hts, hown, hlk, hnm, hP, hK, hD, hA, hZ, hl⟩ := hBd
  have hown : s.vm.findClass RX10 = some m.cls := hown
  have hl : lv_has ls 5 [(0, .ref h0), (1, .int p0), (2, .int p1)] := hl
  have hS : va_S A s.heap s.heap [] := va_S.rf
  refine lv_aload_n hx hb dX10_shared_0 rfl (lv_at hl 0 rfl) ?_
  refine lv_iload_n hx hb dX10_shared_1 rfl (lv_at hl 1 rfl) ?_
  refine k_i (wc := [(h0, oX10 b 0 0 0 0 0 0 0 0 (-1) 0 0 0 0 0 0 0 0 0), (b 1, .inl (cI, 149, .inl (fun _ => 0))), (b 15, .inl (cZ, 80, .inl (fun _ => 0))), (b 16, .inl (cI, 7, .inl (fun _ => 0))), (b 21, .inl (cZ, 80, .inl (fun _ => 0))), (b 24, .inl (cI, 80, .inl (fun _ => 0))), (b 25, .inl (cI, 6, .inl (fun _ => 0))), (b 29, .inl (cI, 6, .inl (fun _ => 0))), (b 30, .inl (cZ, 1040, .inl (fun _ => 0))), (b 31, .inl (cI, 1040, .inl (fun _ => 0))), (b 32, .inl (cI, 78, .inl (fun _ => 0))), (b 27, .inl (cI, 7, .inl (fun _ => 0)))]) (wr := []) hP hD hS hA [0, 1, 2, 3, 4, 5, 6, 7, 8, 9, 10, 11] [] rfl rfl rfl (by decide) (va_runV (As := [.int p0]) (rest := []) ⟨hx, hb, hml, hown, hts⟩ (f_X10_asksWidow l G cI cJ cZ cB cQ _ h0 b p0) (cwV 1 hts (gV w_1567 w_1569 wp_122 w_11 w_1570) rfl rfl rfl ⟨rfl, hd_X10_asksWidow⟩ ⟨Nat.le_of_ble_eq_true rfl, Nat.le_of_ble_eq_true rfl⟩) (mV hK hZ hP hD [0, 1, 2, 3, 4, 5, 6, 7, 8, 9, 10, 11] rfl rfl [.int p0] 0 10 rfl rfl) rfl rfl hl.1 rfl (lv_room (Nat.le_of_ble_eq_true rfl)) dX10_shared_2 ⟨Nat.le_of_ble_eq_true rfl, Nat.le_of_ble_eq_true rfl⟩) (fun r1 u2 H locs hw3 hP hD hS => ?_)
  obtain ⟨f04, rfl⟩ : ∃ z, z = u2 := ⟨_, rfl⟩
  try dsimp only at hw3
  have hP : va_P G vwCl [(h0, oX10 b 0 0 0 0 0 0 0 0 (-1) 0 0 (-1) 0 0 0 0 0 0), (b 1, .inl (cI, 149, .inl (fun _ => 0))), (b 15, .inl (cZ, 80, .inl (fun _ => 0))), (b 16, .inl (cI, 7, .inl (fun _ => 0))), (b 21, .inl (cZ, 80, .inl (fun _ => 0))), (b 24, .inl (cI, 80, .inl (fun _ => 0))), (b 25, .inl (cI, 6, .inl (fun _ => 0))), (b 29, .inl (cI, 6, .inl (fun _ => 0))), (b 30, .inl (cZ, 1040, .inl (fun _ => 0))), (b 31, .inl (cI, 1040, .inl (fun _ => 0))), (b 32, .inl (cI, 78, .inl (fun _ => 0))), (b 27, .inl (cI, 7, .inl f04))] H := hP
  have hD : va_D A [(h0, oX10 b 0 0 0 0 0 0 0 0 (-1) 0 0 (-1) 0 0 0 0 0 0), (b 1, .inl (cI, 149, .inl (fun _ => 0))), (b 15, .inl (cZ, 80, .inl (fun _ => 0))), (b 16, .inl (cI, 7, .inl (fun _ => 0))), (b 21, .inl (cZ, 80, .inl (fun _ => 0))), (b 24, .inl (cI, 80, .inl (fun _ => 0))), (b 25, .inl (cI, 6, .inl (fun _ => 0))), (b 29, .inl (cI, 6, .inl (fun _ => 0))), (b 30, .inl (cZ, 1040, .inl (fun _ => 0))), (b 31, .inl (cI, 1040, .inl (fun _ => 0))), (b 32, .inl (cI, 78, .inl (fun _ => 0))), (b 27, .inl (cI, 7, .inl f04))] := hD
  obtain rfl : r1 = 0 := hw3
  refine lv_if_eq (tgt := 17) hx hb dX10_shared_5 (by decide) (fun c5 => ?_) (fun c5 => absurd (by decide) c5)
  refine lv_bipush (v := (-2)) hx hb dX10_shared_17 (by decide) ?_
  exact hret _ _ _ _ (-2) f04 hP hD hS dX10_shared_19 rfl
set_option maxHeartbeats 4000000 in
set_option maxRecDepth 100000 in
theorem f_X10_walked (l : Launch) (G : va_G) (cI cJ cZ cB cQ : ClassId) (sz : Nat) (h0 : Nat) (b : Nat → Nat) (p0 : Int32) : CI l yX10_walked (wl_ yX10_walked cX10_walked 2 (some .int)) ({ frames := 5, cells := 0, slots := 0, locals := 103 } : Room) G (TY cI cJ cZ cB cQ) [.ref h0, .int p0] [(h0, oX10 b 0 0 0 0 0 0 0 0 (-1) 0 0 0 0 0 0 0 0 0), (b 1, .inl (cI, 149, .inl (fun _ => 0))), (b 15, .inl (cZ, 80, .inl (fun _ => 0))), (b 16, .inl (cI, 7, .inl (fun _ => 0))), (b 21, .inl (cZ, 80, .inl (fun _ => 0))), (b 24, .inl (cI, 80, .inl (fun _ => 0))), (b 25, .inl (cI, 6, .inl (fun _ => 0))), (b 29, .inl (cI, 6, .inl (fun _ => 0))), (b 30, .inl (cZ, 1040, .inl (fun _ => 0))), (b 31, .inl (cI, 1040, .inl (fun _ => 0))), (b 32, .inl (cI, 78, .inl (fun _ => 0))), (b 27, .inl (cI, 7, .inl (fun _ => 0)))] sz (fun (r : Int32) (u : (Nat → Int32)) => r = (-2)) (fun u : (Nat → Int32) => [(h0, oX10 b 0 0 0 0 0 0 0 0 (-1) 0 0 (-1) 0 0 0 0 0 0), (b 1, .inl (cI, 149, .inl (fun _ => 0))), (b 15, .inl (cZ, 80, .inl (fun _ => 0))), (b 16, .inl (cI, 7, .inl (fun _ => 0))), (b 21, .inl (cZ, 80, .inl (fun _ => 0))), (b 24, .inl (cI, 80, .inl (fun _ => 0))), (b 25, .inl (cI, 6, .inl (fun _ => 0))), (b 29, .inl (cI, 6, .inl (fun _ => 0))), (b 30, .inl (cZ, 1040, .inl (fun _ => 0))), (b 31, .inl (cI, 1040, .inl (fun _ => 0))), (b 32, .inl (cI, 78, .inl (fun _ => 0))), (b 27, .inl (cI, 7, .inl u))]) 0 0 := by
  refine CI.go (cc := cX10_walked) (maxL := 2) (ret := (some .int)) (by decide) rfl (Nat.le_of_ble_eq_true rfl) ?_
  intro p e s m below meth c A ls Q hBd hret
  obtain ⟨hx, hb, hr, hml, hts, hown, hlk, hnm, hP, hK, hD, hA, hZ, hl⟩ := hBd
  have hown : s.vm.findClass RX10 = some m.cls := hown
  have hl : lv_has ls 2 [(0, .ref h0), (1, .int p0)] := hl
  have hS : va_S A s.heap s.heap [] := va_S.rf
  refine lv_aload_n hx hb dX10_walked_0 rfl (lv_at hl 0 rfl) ?_
  refine lv_iload_n hx hb dX10_walked_1 rfl (lv_at hl 1 rfl) ?_
  refine k_i (wc := [(h0, oX10 b 0 0 0 0 0 0 0 0 (-1) 0 0 0 0 0 0 0 0 0), (b 1, .inl (cI, 149, .inl (fun _ => 0))), (b 15, .inl (cZ, 80, .inl (fun _ => 0))), (b 16, .inl (cI, 7, .inl (fun _ => 0))), (b 21, .inl (cZ, 80, .inl (fun _ => 0))), (b 24, .inl (cI, 80, .inl (fun _ => 0))), (b 25, .inl (cI, 6, .inl (fun _ => 0))), (b 29, .inl (cI, 6, .inl (fun _ => 0))), (b 30, .inl (cZ, 1040, .inl (fun _ => 0))), (b 31, .inl (cI, 1040, .inl (fun _ => 0))), (b 32, .inl (cI, 78, .inl (fun _ => 0))), (b 27, .inl (cI, 7, .inl (fun _ => 0)))]) (wr := []) hP hD hS hA [0, 1, 2, 3, 4, 5, 6, 7, 8, 9, 10, 11] [] rfl rfl rfl (by decide) (va_runV (As := [.int p0]) (rest := []) ⟨hx, hb, hml, hown, hts⟩ (f_X10_asksCell l G cI cJ cZ cB cQ _ h0 b p0) (cwV 1 hts (gV w_1481 w_1483 wp_104 w_11 w_1484) rfl rfl rfl ⟨rfl, hd_X10_asksCell⟩ ⟨Nat.le_of_ble_eq_true rfl, Nat.le_of_ble_eq_true rfl⟩) (mV hK hZ hP hD [0, 1, 2, 3, 4, 5, 6, 7, 8, 9, 10, 11] rfl rfl [.int p0] 0 10 rfl rfl) rfl rfl hl.1 rfl (lv_room (Nat.le_of_ble_eq_true rfl)) dX10_walked_2 ⟨Nat.le_of_ble_eq_true rfl, Nat.le_of_ble_eq_true rfl⟩) (fun r1 u2 H locs hw3 hP hD hS => ?_)
  obtain ⟨f04, rfl⟩ : ∃ z, z = u2 := ⟨_, rfl⟩
  try dsimp only at hw3
  have hP : va_P G vwCl [(h0, oX10 b 0 0 0 0 0 0 0 0 (-1) 0 0 (-1) 0 0 0 0 0 0), (b 1, .inl (cI, 149, .inl (fun _ => 0))), (b 15, .inl (cZ, 80, .inl (fun _ => 0))), (b 16, .inl (cI, 7, .inl (fun _ => 0))), (b 21, .inl (cZ, 80, .inl (fun _ => 0))), (b 24, .inl (cI, 80, .inl (fun _ => 0))), (b 25, .inl (cI, 6, .inl (fun _ => 0))), (b 29, .inl (cI, 6, .inl (fun _ => 0))), (b 30, .inl (cZ, 1040, .inl (fun _ => 0))), (b 31, .inl (cI, 1040, .inl (fun _ => 0))), (b 32, .inl (cI, 78, .inl (fun _ => 0))), (b 27, .inl (cI, 7, .inl f04))] H := hP
  have hD : va_D A [(h0, oX10 b 0 0 0 0 0 0 0 0 (-1) 0 0 (-1) 0 0 0 0 0 0), (b 1, .inl (cI, 149, .inl (fun _ => 0))), (b 15, .inl (cZ, 80, .inl (fun _ => 0))), (b 16, .inl (cI, 7, .inl (fun _ => 0))), (b 21, .inl (cZ, 80, .inl (fun _ => 0))), (b 24, .inl (cI, 80, .inl (fun _ => 0))), (b 25, .inl (cI, 6, .inl (fun _ => 0))), (b 29, .inl (cI, 6, .inl (fun _ => 0))), (b 30, .inl (cZ, 1040, .inl (fun _ => 0))), (b 31, .inl (cI, 1040, .inl (fun _ => 0))), (b 32, .inl (cI, 78, .inl (fun _ => 0))), (b 27, .inl (cI, 7, .inl f04))] := hD
  obtain rfl : r1 = 0 := hw3
  refine lv_if_eq (tgt := 16) hx hb dX10_walked_5 (by decide) (fun c5 => ?_) (fun c5 => absurd (by decide) c5)
  refine lv_bipush (v := (-2)) hx hb dX10_walked_16 (by decide) ?_
  exact hret _ _ _ _ (-2) f04 hP hD hS dX10_walked_18 rfl
set_option maxHeartbeats 4000000 in
set_option maxRecDepth 100000 in
theorem f_X10_first (l : Launch) (G : va_G) (cI cJ cZ cB cQ : ClassId) (sz : Nat) (h0 : Nat) (b : Nat → Nat) (p0 : Int32) : CI l yX10_first (wl_ yX10_first cX10_first 3 (some .int)) ({ frames := 5, cells := 0, slots := 0, locals := 103 } : Room) G (TY cI cJ cZ cB cQ) [.ref h0, .int p0] [(h0, oX10 b 0 0 0 0 0 0 0 0 (-1) 0 0 0 0 0 0 0 0 0), (b 1, .inl (cI, 149, .inl (fun _ => 0))), (b 15, .inl (cZ, 80, .inl (fun _ => 0))), (b 16, .inl (cI, 7, .inl (fun _ => 0))), (b 21, .inl (cZ, 80, .inl (fun _ => 0))), (b 24, .inl (cI, 80, .inl (fun _ => 0))), (b 25, .inl (cI, 6, .inl (fun _ => 0))), (b 29, .inl (cI, 6, .inl (fun _ => 0))), (b 30, .inl (cZ, 1040, .inl (fun _ => 0))), (b 31, .inl (cI, 1040, .inl (fun _ => 0))), (b 32, .inl (cI, 78, .inl (fun _ => 0))), (b 27, .inl (cI, 7, .inl (fun _ => 0)))] sz (fun (r : Int32) (u : (Nat → Int32)) => r = (-2)) (fun u : (Nat → Int32) => [(h0, oX10 b 0 0 0 0 0 0 0 0 (-1) 0 0 (-1) 0 0 0 0 0 0), (b 1, .inl (cI, 149, .inl (fun _ => 0))), (b 15, .inl (cZ, 80, .inl (fun _ => 0))), (b 16, .inl (cI, 7, .inl (fun _ => 0))), (b 21, .inl (cZ, 80, .inl (fun _ => 0))), (b 24, .inl (cI, 80, .inl (fun _ => 0))), (b 25, .inl (cI, 6, .inl (fun _ => 0))), (b 29, .inl (cI, 6, .inl (fun _ => 0))), (b 30, .inl (cZ, 1040, .inl (fun _ => 0))), (b 31, .inl (cI, 1040, .inl (fun _ => 0))), (b 32, .inl (cI, 78, .inl (fun _ => 0))), (b 27, .inl (cI, 7, .inl u))]) 0 0 := by
  refine CI.go (cc := cX10_first) (maxL := 3) (ret := (some .int)) (by decide) rfl (Nat.le_of_ble_eq_true rfl) ?_
  intro p e s m below meth c A ls Q hBd hret
  obtain ⟨hx, hb, hr, hml, hts, hown, hlk, hnm, hP, hK, hD, hA, hZ, hl⟩ := hBd
  have hown : s.vm.findClass RX10 = some m.cls := hown
  have hl : lv_has ls 3 [(0, .ref h0), (1, .int p0)] := hl
  have hS : va_S A s.heap s.heap [] := va_S.rf
  refine lv_aload_n hx hb dX10_first_0 rfl (lv_at hl 0 rfl) ?_
  refine lv_iload_n hx hb dX10_first_1 rfl (lv_at hl 1 rfl) ?_
  refine k_i (wc := [(h0, oX10 b 0 0 0 0 0 0 0 0 (-1) 0 0 0 0 0 0 0 0 0), (b 1, .inl (cI, 149, .inl (fun _ => 0))), (b 15, .inl (cZ, 80, .inl (fun _ => 0))), (b 16, .inl (cI, 7, .inl (fun _ => 0))), (b 21, .inl (cZ, 80, .inl (fun _ => 0))), (b 24, .inl (cI, 80, .inl (fun _ => 0))), (b 25, .inl (cI, 6, .inl (fun _ => 0))), (b 29, .inl (cI, 6, .inl (fun _ => 0))), (b 30, .inl (cZ, 1040, .inl (fun _ => 0))), (b 31, .inl (cI, 1040, .inl (fun _ => 0))), (b 32, .inl (cI, 78, .inl (fun _ => 0))), (b 27, .inl (cI, 7, .inl (fun _ => 0)))]) (wr := []) hP hD hS hA [0, 1, 2, 3, 4, 5, 6, 7, 8, 9, 10, 11] [] rfl rfl rfl (by decide) (va_runV (As := [.int p0]) (rest := []) ⟨hx, hb, hml, hown, hts⟩ (f_X10_asksCell l G cI cJ cZ cB cQ _ h0 b p0) (cwV 1 hts (gV w_1481 w_1483 wp_104 w_11 w_1484) rfl rfl rfl ⟨rfl, hd_X10_asksCell⟩ ⟨Nat.le_of_ble_eq_true rfl, Nat.le_of_ble_eq_true rfl⟩) (mV hK hZ hP hD [0, 1, 2, 3, 4, 5, 6, 7, 8, 9, 10, 11] rfl rfl [.int p0] 0 10 rfl rfl) rfl rfl hl.1 rfl (lv_room (Nat.le_of_ble_eq_true rfl)) dX10_first_2 ⟨Nat.le_of_ble_eq_true rfl, Nat.le_of_ble_eq_true rfl⟩) (fun r1 u2 H locs hw3 hP hD hS => ?_)
  obtain ⟨f04, rfl⟩ : ∃ z, z = u2 := ⟨_, rfl⟩
  try dsimp only at hw3
  have hP : va_P G vwCl [(h0, oX10 b 0 0 0 0 0 0 0 0 (-1) 0 0 (-1) 0 0 0 0 0 0), (b 1, .inl (cI, 149, .inl (fun _ => 0))), (b 15, .inl (cZ, 80, .inl (fun _ => 0))), (b 16, .inl (cI, 7, .inl (fun _ => 0))), (b 21, .inl (cZ, 80, .inl (fun _ => 0))), (b 24, .inl (cI, 80, .inl (fun _ => 0))), (b 25, .inl (cI, 6, .inl (fun _ => 0))), (b 29, .inl (cI, 6, .inl (fun _ => 0))), (b 30, .inl (cZ, 1040, .inl (fun _ => 0))), (b 31, .inl (cI, 1040, .inl (fun _ => 0))), (b 32, .inl (cI, 78, .inl (fun _ => 0))), (b 27, .inl (cI, 7, .inl f04))] H := hP
  have hD : va_D A [(h0, oX10 b 0 0 0 0 0 0 0 0 (-1) 0 0 (-1) 0 0 0 0 0 0), (b 1, .inl (cI, 149, .inl (fun _ => 0))), (b 15, .inl (cZ, 80, .inl (fun _ => 0))), (b 16, .inl (cI, 7, .inl (fun _ => 0))), (b 21, .inl (cZ, 80, .inl (fun _ => 0))), (b 24, .inl (cI, 80, .inl (fun _ => 0))), (b 25, .inl (cI, 6, .inl (fun _ => 0))), (b 29, .inl (cI, 6, .inl (fun _ => 0))), (b 30, .inl (cZ, 1040, .inl (fun _ => 0))), (b 31, .inl (cI, 1040, .inl (fun _ => 0))), (b 32, .inl (cI, 78, .inl (fun _ => 0))), (b 27, .inl (cI, 7, .inl f04))] := hD
  obtain rfl : r1 = 0 := hw3
  refine lv_if_ne (tgt := 11) hx hb dX10_first_5 (by decide) (fun c5 => absurd (by decide) c5) (fun c5 => ?_)
  refine lv_bipush (v := (-2)) hx hb dX10_first_8 (by decide) ?_
  exact hret _ _ _ _ (-2) f04 hP hD hS dX10_first_10 rfl
set_option maxHeartbeats 4000000 in
set_option maxRecDepth 100000 in
theorem f_X10_line (l : Launch) (G : va_G) (cI cJ cZ cB cQ : ClassId) (sz : Nat) (h0 : Nat) (b : Nat → Nat) (p0 : Int32) : CI l yX10_line (wl_ yX10_line cX10_line 7 (some .int)) ({ frames := 5, cells := 0, slots := 0, locals := 103 } : Room) G (TY cI cJ cZ cB cQ) [.ref h0, .int p0] [(h0, oX10 b 0 0 0 0 0 0 0 0 (-1) 0 0 0 0 0 0 0 0 0), (b 1, .inl (cI, 149, .inl (fun _ => 0))), (b 15, .inl (cZ, 80, .inl (fun _ => 0))), (b 16, .inl (cI, 7, .inl (fun _ => 0))), (b 21, .inl (cZ, 80, .inl (fun _ => 0))), (b 24, .inl (cI, 80, .inl (fun _ => 0))), (b 25, .inl (cI, 6, .inl (fun _ => 0))), (b 29, .inl (cI, 6, .inl (fun _ => 0))), (b 30, .inl (cZ, 1040, .inl (fun _ => 0))), (b 31, .inl (cI, 1040, .inl (fun _ => 0))), (b 32, .inl (cI, 78, .inl (fun _ => 0))), (b 27, .inl (cI, 7, .inl (fun _ => 0)))] sz (fun (r : Int32) (u : (Nat → Int32)) => r = (-2)) (fun u : (Nat → Int32) => [(h0, oX10 b 0 0 0 0 0 0 0 0 (-1) 0 0 (-1) 0 0 0 0 0 0), (b 1, .inl (cI, 149, .inl (fun _ => 0))), (b 15, .inl (cZ, 80, .inl (fun _ => 0))), (b 16, .inl (cI, 7, .inl (fun _ => 0))), (b 21, .inl (cZ, 80, .inl (fun _ => 0))), (b 24, .inl (cI, 80, .inl (fun _ => 0))), (b 25, .inl (cI, 6, .inl (fun _ => 0))), (b 29, .inl (cI, 6, .inl (fun _ => 0))), (b 30, .inl (cZ, 1040, .inl (fun _ => 0))), (b 31, .inl (cI, 1040, .inl (fun _ => 0))), (b 32, .inl (cI, 78, .inl (fun _ => 0))), (b 27, .inl (cI, 7, .inl u))]) 0 0 := by
  refine CI.go (cc := cX10_line) (maxL := 7) (ret := (some .int)) (by decide) rfl (Nat.le_of_ble_eq_true rfl) ?_
  intro p e s m below meth c A ls Q hBd hret
  obtain ⟨hx, hb, hr, hml, hts, hown, hlk, hnm, hP, hK, hD, hA, hZ, hl⟩ := hBd
  have hown : s.vm.findClass RX10 = some m.cls := hown
  have hl : lv_has ls 7 [(0, .ref h0), (1, .int p0)] := hl
  have hS : va_S A s.heap s.heap [] := va_S.rf
  refine lv_aload_n hx hb dX10_line_0 rfl (lv_at hl 0 rfl) ?_
  refine lv_iload_n hx hb dX10_line_1 rfl (lv_at hl 1 rfl) ?_
  refine k_i (wc := [(h0, oX10 b 0 0 0 0 0 0 0 0 (-1) 0 0 0 0 0 0 0 0 0), (b 1, .inl (cI, 149, .inl (fun _ => 0))), (b 15, .inl (cZ, 80, .inl (fun _ => 0))), (b 16, .inl (cI, 7, .inl (fun _ => 0))), (b 21, .inl (cZ, 80, .inl (fun _ => 0))), (b 24, .inl (cI, 80, .inl (fun _ => 0))), (b 25, .inl (cI, 6, .inl (fun _ => 0))), (b 29, .inl (cI, 6, .inl (fun _ => 0))), (b 30, .inl (cZ, 1040, .inl (fun _ => 0))), (b 31, .inl (cI, 1040, .inl (fun _ => 0))), (b 32, .inl (cI, 78, .inl (fun _ => 0))), (b 27, .inl (cI, 7, .inl (fun _ => 0)))]) (wr := []) hP hD hS hA [0, 1, 2, 3, 4, 5, 6, 7, 8, 9, 10, 11] [] rfl rfl rfl (by decide) (va_runV (As := [.int p0]) (rest := []) ⟨hx, hb, hml, hown, hts⟩ (f_X10_asksYear l G cI cJ cZ cB cQ _ h0 b p0) (cwV 1 hts (gV w_1620 w_1622 wp_128 w_11 w_1623) rfl rfl rfl ⟨rfl, hd_X10_asksYear⟩ ⟨Nat.le_of_ble_eq_true rfl, Nat.le_of_ble_eq_true rfl⟩) (mV hK hZ hP hD [0, 1, 2, 3, 4, 5, 6, 7, 8, 9, 10, 11] rfl rfl [.int p0] 0 10 rfl rfl) rfl rfl hl.1 rfl (lv_room (Nat.le_of_ble_eq_true rfl)) dX10_line_2 ⟨Nat.le_of_ble_eq_true rfl, Nat.le_of_ble_eq_true rfl⟩) (fun r1 u2 H locs hw3 hP hD hS => ?_)
  obtain ⟨f04, rfl⟩ : ∃ z, z = u2 := ⟨_, rfl⟩
  try dsimp only at hw3
  have hP : va_P G vwCl [(h0, oX10 b 0 0 0 0 0 0 0 0 (-1) 0 0 (-1) 0 0 0 0 0 0), (b 1, .inl (cI, 149, .inl (fun _ => 0))), (b 15, .inl (cZ, 80, .inl (fun _ => 0))), (b 16, .inl (cI, 7, .inl (fun _ => 0))), (b 21, .inl (cZ, 80, .inl (fun _ => 0))), (b 24, .inl (cI, 80, .inl (fun _ => 0))), (b 25, .inl (cI, 6, .inl (fun _ => 0))), (b 29, .inl (cI, 6, .inl (fun _ => 0))), (b 30, .inl (cZ, 1040, .inl (fun _ => 0))), (b 31, .inl (cI, 1040, .inl (fun _ => 0))), (b 32, .inl (cI, 78, .inl (fun _ => 0))), (b 27, .inl (cI, 7, .inl f04))] H := hP
  have hD : va_D A [(h0, oX10 b 0 0 0 0 0 0 0 0 (-1) 0 0 (-1) 0 0 0 0 0 0), (b 1, .inl (cI, 149, .inl (fun _ => 0))), (b 15, .inl (cZ, 80, .inl (fun _ => 0))), (b 16, .inl (cI, 7, .inl (fun _ => 0))), (b 21, .inl (cZ, 80, .inl (fun _ => 0))), (b 24, .inl (cI, 80, .inl (fun _ => 0))), (b 25, .inl (cI, 6, .inl (fun _ => 0))), (b 29, .inl (cI, 6, .inl (fun _ => 0))), (b 30, .inl (cZ, 1040, .inl (fun _ => 0))), (b 31, .inl (cI, 1040, .inl (fun _ => 0))), (b 32, .inl (cI, 78, .inl (fun _ => 0))), (b 27, .inl (cI, 7, .inl f04))] := hD
  obtain rfl : r1 = 0 := hw3
  refine lv_if_ne (tgt := 11) hx hb dX10_line_5 (by decide) (fun c5 => absurd (by decide) c5) (fun c5 => ?_)
  refine lv_bipush (v := (-2)) hx hb dX10_line_8 (by decide) ?_
  exact hret _ _ _ _ (-2) f04 hP hD hS dX10_line_10 rfl
set_option maxHeartbeats 4000000 in
set_option maxRecDepth 100000 in
theorem f_X10_house (l : Launch) (G : va_G) (cI cJ cZ cB cQ : ClassId) (sz : Nat) (h0 : Nat) (b : Nat → Nat) (p0 : Int32) (p1 : Int32) : CI l yX10_house (wl_ yX10_house cX10_house 3 (some .int)) ({ frames := 5, cells := 0, slots := 0, locals := 103 } : Room) G (TY cI cJ cZ cB cQ) [.ref h0, .int p0, .int p1] [(h0, oX10 b 0 0 0 0 0 0 0 0 (-1) 0 0 0 0 0 0 0 0 0), (b 1, .inl (cI, 149, .inl (fun _ => 0))), (b 15, .inl (cZ, 80, .inl (fun _ => 0))), (b 16, .inl (cI, 7, .inl (fun _ => 0))), (b 21, .inl (cZ, 80, .inl (fun _ => 0))), (b 24, .inl (cI, 80, .inl (fun _ => 0))), (b 25, .inl (cI, 6, .inl (fun _ => 0))), (b 29, .inl (cI, 6, .inl (fun _ => 0))), (b 30, .inl (cZ, 1040, .inl (fun _ => 0))), (b 31, .inl (cI, 1040, .inl (fun _ => 0))), (b 32, .inl (cI, 78, .inl (fun _ => 0))), (b 27, .inl (cI, 7, .inl (fun _ => 0)))] sz (fun (r : Int32) (u : (Nat → Int32)) => r = (-2)) (fun u : (Nat → Int32) => [(h0, oX10 b 0 0 0 0 0 0 0 0 (-1) 0 0 (-1) 0 0 0 0 0 0), (b 1, .inl (cI, 149, .inl (fun _ => 0))), (b 15, .inl (cZ, 80, .inl (fun _ => 0))), (b 16, .inl (cI, 7, .inl (fun _ => 0))), (b 21, .inl (cZ, 80, .inl (fun _ => 0))), (b 24, .inl (cI, 80, .inl (fun _ => 0))), (b 25, .inl (cI, 6, .inl (fun _ => 0))), (b 29, .inl (cI, 6, .inl (fun _ => 0))), (b 30, .inl (cZ, 1040, .inl (fun _ => 0))), (b 31, .inl (cI, 1040, .inl (fun _ => 0))), (b 32, .inl (cI, 78, .inl (fun _ => 0))), (b 27, .inl (cI, 7, .inl u))]) 0 0 := by
  refine CI.go (cc := cX10_house) (maxL := 3) (ret := (some .int)) (by decide) rfl (Nat.le_of_ble_eq_true rfl) ?_
  intro p e s m below meth c A ls Q hBd hret
  obtain ⟨hx, hb, hr, hml, hts, hown, hlk, hnm, hP, hK, hD, hA, hZ, hl⟩ := hBd
  have hown : s.vm.findClass RX10 = some m.cls := hown
  have hl : lv_has ls 3 [(0, .ref h0), (1, .int p0), (2, .int p1)] := hl
  have hS : va_S A s.heap s.heap [] := va_S.rf
  refine lv_aload_n hx hb dX10_house_0 rfl (lv_at hl 0 rfl) ?_
  refine lv_iload_n hx hb dX10_house_1 rfl (lv_at hl 2 rfl) ?_
  refine k_i (wc := [(h0, oX10 b 0 0 0 0 0 0 0 0 (-1) 0 0 0 0 0 0 0 0 0), (b 1, .inl (cI, 149, .inl (fun _ => 0))), (b 15, .inl (cZ, 80, .inl (fun _ => 0))), (b 16, .inl (cI, 7, .inl (fun _ => 0))), (b 21, .inl (cZ, 80, .inl (fun _ => 0))), (b 24, .inl (cI, 80, .inl (fun _ => 0))), (b 25, .inl (cI, 6, .inl (fun _ => 0))), (b 29, .inl (cI, 6, .inl (fun _ => 0))), (b 30, .inl (cZ, 1040, .inl (fun _ => 0))), (b 31, .inl (cI, 1040, .inl (fun _ => 0))), (b 32, .inl (cI, 78, .inl (fun _ => 0))), (b 27, .inl (cI, 7, .inl (fun _ => 0)))]) (wr := []) hP hD hS hA [0, 1, 2, 3, 4, 5, 6, 7, 8, 9, 10, 11] [] rfl rfl rfl (by decide) (va_runV (As := [.int p1]) (rest := []) ⟨hx, hb, hml, hown, hts⟩ (f_X10_asksYear l G cI cJ cZ cB cQ _ h0 b p1) (cwV 1 hts (gV w_1620 w_1622 wp_128 w_11 w_1623) rfl rfl rfl ⟨rfl, hd_X10_asksYear⟩ ⟨Nat.le_of_ble_eq_true rfl, Nat.le_of_ble_eq_true rfl⟩) (mV hK hZ hP hD [0, 1, 2, 3, 4, 5, 6, 7, 8, 9, 10, 11] rfl rfl [.int p1] 0 10 rfl rfl) rfl rfl hl.1 rfl (lv_room (Nat.le_of_ble_eq_true rfl)) dX10_house_2 ⟨Nat.le_of_ble_eq_true rfl, Nat.le_of_ble_eq_true rfl⟩) (fun r1 u2 H locs hw3 hP hD hS => ?_)
  obtain ⟨f04, rfl⟩ : ∃ z, z = u2 := ⟨_, rfl⟩
  try dsimp only at hw3
  have hP : va_P G vwCl [(h0, oX10 b 0 0 0 0 0 0 0 0 (-1) 0 0 (-1) 0 0 0 0 0 0), (b 1, .inl (cI, 149, .inl (fun _ => 0))), (b 15, .inl (cZ, 80, .inl (fun _ => 0))), (b 16, .inl (cI, 7, .inl (fun _ => 0))), (b 21, .inl (cZ, 80, .inl (fun _ => 0))), (b 24, .inl (cI, 80, .inl (fun _ => 0))), (b 25, .inl (cI, 6, .inl (fun _ => 0))), (b 29, .inl (cI, 6, .inl (fun _ => 0))), (b 30, .inl (cZ, 1040, .inl (fun _ => 0))), (b 31, .inl (cI, 1040, .inl (fun _ => 0))), (b 32, .inl (cI, 78, .inl (fun _ => 0))), (b 27, .inl (cI, 7, .inl f04))] H := hP
  have hD : va_D A [(h0, oX10 b 0 0 0 0 0 0 0 0 (-1) 0 0 (-1) 0 0 0 0 0 0), (b 1, .inl (cI, 149, .inl (fun _ => 0))), (b 15, .inl (cZ, 80, .inl (fun _ => 0))), (b 16, .inl (cI, 7, .inl (fun _ => 0))), (b 21, .inl (cZ, 80, .inl (fun _ => 0))), (b 24, .inl (cI, 80, .inl (fun _ => 0))), (b 25, .inl (cI, 6, .inl (fun _ => 0))), (b 29, .inl (cI, 6, .inl (fun _ => 0))), (b 30, .inl (cZ, 1040, .inl (fun _ => 0))), (b 31, .inl (cI, 1040, .inl (fun _ => 0))), (b 32, .inl (cI, 78, .inl (fun _ => 0))), (b 27, .inl (cI, 7, .inl f04))] := hD
  obtain rfl : r1 = 0 := hw3
  refine lv_if_eq (tgt := 30) hx hb dX10_house_5 (by decide) (fun c5 => ?_) (fun c5 => absurd (by decide) c5)
  refine lv_bipush (v := (-2)) hx hb dX10_house_30 (by decide) ?_
  exact hret _ _ _ _ (-2) f04 hP hD hS dX10_house_32 rfl
set_option maxHeartbeats 4000000 in
set_option maxRecDepth 100000 in
theorem f_X10_moved (l : Launch) (G : va_G) (cI cJ cZ cB cQ : ClassId) (sz : Nat) (h0 : Nat) (b : Nat → Nat) (p0 : Int32) : CI l yX10_moved (wl_ yX10_moved cX10_moved 2 (some .int)) ({ frames := 4, cells := 0, slots := 0, locals := 82 } : Room) G (TY cI cJ cZ cB cQ) [.ref h0, .int p0] [(h0, oX10 b 0 0 0 0 0 0 0 0 (-1) 0 0 0 0 0 0 0 0 0), (b 1, .inl (cI, 149, .inl (fun _ => 0))), (b 15, .inl (cZ, 80, .inl (fun _ => 0))), (b 16, .inl (cI, 7, .inl (fun _ => 0))), (b 21, .inl (cZ, 80, .inl (fun _ => 0))), (b 24, .inl (cI, 80, .inl (fun _ => 0))), (b 25, .inl (cI, 6, .inl (fun _ => 0))), (b 29, .inl (cI, 6, .inl (fun _ => 0))), (b 30, .inl (cZ, 1040, .inl (fun _ => 0))), (b 31, .inl (cI, 1040, .inl (fun _ => 0))), (b 32, .inl (cI, 78, .inl (fun _ => 0))), (b 27, .inl (cI, 7, .inl (fun _ => 0)))] sz (fun (r : Int32) (u : (Nat → Int32)) => r = (-2)) (fun u : (Nat → Int32) => [(h0, oX10 b 0 0 0 0 0 0 0 0 (-1) 0 0 (-1) 0 0 0 0 0 0), (b 1, .inl (cI, 149, .inl (fun _ => 0))), (b 15, .inl (cZ, 80, .inl (fun _ => 0))), (b 16, .inl (cI, 7, .inl (fun _ => 0))), (b 21, .inl (cZ, 80, .inl (fun _ => 0))), (b 24, .inl (cI, 80, .inl (fun _ => 0))), (b 25, .inl (cI, 6, .inl (fun _ => 0))), (b 29, .inl (cI, 6, .inl (fun _ => 0))), (b 30, .inl (cZ, 1040, .inl (fun _ => 0))), (b 31, .inl (cI, 1040, .inl (fun _ => 0))), (b 32, .inl (cI, 78, .inl (fun _ => 0))), (b 27, .inl (cI, 7, .inl u))]) 0 0 := by
  refine CI.go (cc := cX10_moved) (maxL := 2) (ret := (some .int)) (by decide) rfl (Nat.le_of_ble_eq_true rfl) ?_
  intro p e s m below meth c A ls Q hBd hret
  obtain ⟨hx, hb, hr, hml, hts, hown, hlk, hnm, hP, hK, hD, hA, hZ, hl⟩ := hBd
  have hown : s.vm.findClass RX10 = some m.cls := hown
  have hl : lv_has ls 2 [(0, .ref h0), (1, .int p0)] := hl
  have hS : va_S A s.heap s.heap [] := va_S.rf
  refine lv_aload_n hx hb dX10_moved_0 rfl (lv_at hl 0 rfl) ?_
  refine k_i (wc := [(h0, oX10 b 0 0 0 0 0 0 0 0 (-1) 0 0 0 0 0 0 0 0 0), (b 1, .inl (cI, 149, .inl (fun _ => 0))), (b 15, .inl (cZ, 80, .inl (fun _ => 0))), (b 16, .inl (cI, 7, .inl (fun _ => 0))), (b 21, .inl (cZ, 80, .inl (fun _ => 0))), (b 24, .inl (cI, 80, .inl (fun _ => 0))), (b 25, .inl (cI, 6, .inl (fun _ => 0))), (b 29, .inl (cI, 6, .inl (fun _ => 0))), (b 30, .inl (cZ, 1040, .inl (fun _ => 0))), (b 31, .inl (cI, 1040, .inl (fun _ => 0))), (b 32, .inl (cI, 78, .inl (fun _ => 0))), (b 27, .inl (cI, 7, .inl (fun _ => 0)))]) (wr := []) hP hD hS hA [0, 1, 2, 3, 4, 5, 6, 7, 8, 9, 10, 11] [] rfl rfl rfl (by decide) (va_runV (As := []) (rest := []) ⟨hx, hb, hml, hown, hts⟩ (f_X10_asksColony l G cI cJ cZ cB cQ _ h0 b) (cwV 0 hts (gV w_1485 w_1487 wp_105 w_11 w_1488) rfl rfl rfl ⟨rfl, hd_X10_asksColony⟩ ⟨Nat.le_of_ble_eq_true rfl, Nat.le_of_ble_eq_true rfl⟩) (mV hK hZ hP hD [0, 1, 2, 3, 4, 5, 6, 7, 8, 9, 10, 11] rfl rfl [] 0 10 rfl rfl) rfl rfl hl.1 rfl (lv_room (Nat.le_of_ble_eq_true rfl)) dX10_moved_1 ⟨Nat.le_of_ble_eq_true rfl, Nat.le_of_ble_eq_true rfl⟩) (fun r1 u2 H locs hw3 hP hD hS => ?_)
  obtain ⟨f04, rfl⟩ : ∃ z, z = u2 := ⟨_, rfl⟩
  try dsimp only at hw3
  have hP : va_P G vwCl [(h0, oX10 b 0 0 0 0 0 0 0 0 (-1) 0 0 (-1) 0 0 0 0 0 0), (b 1, .inl (cI, 149, .inl (fun _ => 0))), (b 15, .inl (cZ, 80, .inl (fun _ => 0))), (b 16, .inl (cI, 7, .inl (fun _ => 0))), (b 21, .inl (cZ, 80, .inl (fun _ => 0))), (b 24, .inl (cI, 80, .inl (fun _ => 0))), (b 25, .inl (cI, 6, .inl (fun _ => 0))), (b 29, .inl (cI, 6, .inl (fun _ => 0))), (b 30, .inl (cZ, 1040, .inl (fun _ => 0))), (b 31, .inl (cI, 1040, .inl (fun _ => 0))), (b 32, .inl (cI, 78, .inl (fun _ => 0))), (b 27, .inl (cI, 7, .inl f04))] H := hP
  have hD : va_D A [(h0, oX10 b 0 0 0 0 0 0 0 0 (-1) 0 0 (-1) 0 0 0 0 0 0), (b 1, .inl (cI, 149, .inl (fun _ => 0))), (b 15, .inl (cZ, 80, .inl (fun _ => 0))), (b 16, .inl (cI, 7, .inl (fun _ => 0))), (b 21, .inl (cZ, 80, .inl (fun _ => 0))), (b 24, .inl (cI, 80, .inl (fun _ => 0))), (b 25, .inl (cI, 6, .inl (fun _ => 0))), (b 29, .inl (cI, 6, .inl (fun _ => 0))), (b 30, .inl (cZ, 1040, .inl (fun _ => 0))), (b 31, .inl (cI, 1040, .inl (fun _ => 0))), (b 32, .inl (cI, 78, .inl (fun _ => 0))), (b 27, .inl (cI, 7, .inl f04))] := hD
  obtain rfl : r1 = 0 := hw3
  refine lv_pop hx hb dX10_moved_4 rfl ?_
  refine lv_aload_n hx hb dX10_moved_5 rfl (lv_at hl 0 rfl) ?_
  refine lv_iload_n hx hb dX10_moved_6 rfl (lv_at hl 1 rfl) ?_
  refine k_i (wc := [(h0, oX10 b 0 0 0 0 0 0 0 0 (-1) 0 0 (-1) 0 0 0 0 0 0), (b 1, .inl (cI, 149, .inl (fun _ => 0)))]) (wr := [(b 15, .inl (cZ, 80, .inl (fun _ => 0))), (b 16, .inl (cI, 7, .inl (fun _ => 0))), (b 21, .inl (cZ, 80, .inl (fun _ => 0))), (b 24, .inl (cI, 80, .inl (fun _ => 0))), (b 25, .inl (cI, 6, .inl (fun _ => 0))), (b 29, .inl (cI, 6, .inl (fun _ => 0))), (b 30, .inl (cZ, 1040, .inl (fun _ => 0))), (b 31, .inl (cI, 1040, .inl (fun _ => 0))), (b 32, .inl (cI, 78, .inl (fun _ => 0))), (b 27, .inl (cI, 7, .inl f04))]) hP hD hS hA [0, 1] [2, 3, 4, 5, 6, 7, 8, 9, 10, 11] rfl rfl rfl (by decide) (va_runV (As := [.int p0]) (rest := []) ⟨hx, hb, hml, hown, hts⟩ (f_X10_isHouseTold l G cI cJ cZ cB cQ _ h0 b (-1) p0) (cwV 1 hts (gV w_1768 w_1770 wp_142 w_11 w_1771) rfl rfl rfl ⟨rfl, hd_X10_isHouseTold⟩ ⟨Nat.le_of_ble_eq_true rfl, Nat.le_of_ble_eq_true rfl⟩) (mV hK hZ hP hD [0, 1] rfl rfl [.int p0] 0 10 rfl rfl) rfl rfl hl.1 rfl (lv_room (Nat.le_of_ble_eq_true rfl)) dX10_moved_7 ⟨Nat.le_of_ble_eq_true rfl, Nat.le_of_ble_eq_true rfl⟩) (fun r5 u6 H locs hw7 hP hD hS => ?_)
  try dsimp only at hw7
  have hP : va_P G vwCl [(b 15, .inl (cZ, 80, .inl (fun _ => 0))), (b 16, .inl (cI, 7, .inl (fun _ => 0))), (b 21, .inl (cZ, 80, .inl (fun _ => 0))), (b 24, .inl (cI, 80, .inl (fun _ => 0))), (b 25, .inl (cI, 6, .inl (fun _ => 0))), (b 29, .inl (cI, 6, .inl (fun _ => 0))), (b 30, .inl (cZ, 1040, .inl (fun _ => 0))), (b 31, .inl (cI, 1040, .inl (fun _ => 0))), (b 32, .inl (cI, 78, .inl (fun _ => 0))), (b 27, .inl (cI, 7, .inl f04)), (h0, oX10 b 0 0 0 0 0 0 0 0 (-1) 0 0 (-1) 0 0 0 0 0 0), (b 1, .inl (cI, 149, .inl (fun _ => 0)))] H := hP
  have hD : va_D A [(b 15, .inl (cZ, 80, .inl (fun _ => 0))), (b 16, .inl (cI, 7, .inl (fun _ => 0))), (b 21, .inl (cZ, 80, .inl (fun _ => 0))), (b 24, .inl (cI, 80, .inl (fun _ => 0))), (b 25, .inl (cI, 6, .inl (fun _ => 0))), (b 29, .inl (cI, 6, .inl (fun _ => 0))), (b 30, .inl (cZ, 1040, .inl (fun _ => 0))), (b 31, .inl (cI, 1040, .inl (fun _ => 0))), (b 32, .inl (cI, 78, .inl (fun _ => 0))), (b 27, .inl (cI, 7, .inl f04)), (h0, oX10 b 0 0 0 0 0 0 0 0 (-1) 0 0 (-1) 0 0 0 0 0 0), (b 1, .inl (cI, 149, .inl (fun _ => 0)))] := hD
  obtain rfl : r5 = 0 := hw7
  refine lv_if_eq (tgt := 22) hx hb dX10_moved_10 (by decide) (fun c8 => ?_) (fun c8 => absurd (by decide) c8)
  refine lv_bipush (v := (-2)) hx hb dX10_moved_22 (by decide) ?_
  exact hret _ _ _ _ (-2) f04 (hP.sub (ws' := [(h0, oX10 b 0 0 0 0 0 0 0 0 (-1) 0 0 (-1) 0 0 0 0 0 0), (b 1, .inl (cI, 149, .inl (fun _ => 0))), (b 15, .inl (cZ, 80, .inl (fun _ => 0))), (b 16, .inl (cI, 7, .inl (fun _ => 0))), (b 21, .inl (cZ, 80, .inl (fun _ => 0))), (b 24, .inl (cI, 80, .inl (fun _ => 0))), (b 25, .inl (cI, 6, .inl (fun _ => 0))), (b 29, .inl (cI, 6, .inl (fun _ => 0))), (b 30, .inl (cZ, 1040, .inl (fun _ => 0))), (b 31, .inl (cI, 1040, .inl (fun _ => 0))), (b 32, .inl (cI, 78, .inl (fun _ => 0))), (b 27, .inl (cI, 7, .inl f04))]) [10, 11, 0, 1, 2, 3, 4, 5, 6, 7, 8, 9] rfl) (hD.sub (ws' := [(h0, oX10 b 0 0 0 0 0 0 0 0 (-1) 0 0 (-1) 0 0 0 0 0 0), (b 1, .inl (cI, 149, .inl (fun _ => 0))), (b 15, .inl (cZ, 80, .inl (fun _ => 0))), (b 16, .inl (cI, 7, .inl (fun _ => 0))), (b 21, .inl (cZ, 80, .inl (fun _ => 0))), (b 24, .inl (cI, 80, .inl (fun _ => 0))), (b 25, .inl (cI, 6, .inl (fun _ => 0))), (b 29, .inl (cI, 6, .inl (fun _ => 0))), (b 30, .inl (cZ, 1040, .inl (fun _ => 0))), (b 31, .inl (cI, 1040, .inl (fun _ => 0))), (b 32, .inl (cI, 78, .inl (fun _ => 0))), (b 27, .inl (cI, 7, .inl f04))]) [10, 11, 0, 1, 2, 3, 4, 5, 6, 7, 8, 9] rfl rfl) hS dX10_moved_24 rfl
set_option maxHeartbeats 4000000 in
set_option maxRecDepth 100000 in
theorem f_X10_moves (l : Launch) (G : va_G) (cI cJ cZ cB cQ : ClassId) (sz : Nat) (h0 : Nat) (b : Nat → Nat) (p0 : Int32) : CI l yX10_moves (wl_ yX10_moves cX10_moves 2 (some .int)) ({ frames := 5, cells := 0, slots := 0, locals := 103 } : Room) G (TY cI cJ cZ cB cQ) [.ref h0, .int p0] [(h0, oX10 b 0 0 0 0 0 0 0 0 (-1) 0 0 0 0 0 0 0 0 0), (b 1, .inl (cI, 149, .inl (fun _ => 0))), (b 15, .inl (cZ, 80, .inl (fun _ => 0))), (b 16, .inl (cI, 7, .inl (fun _ => 0))), (b 21, .inl (cZ, 80, .inl (fun _ => 0))), (b 24, .inl (cI, 80, .inl (fun _ => 0))), (b 25, .inl (cI, 6, .inl (fun _ => 0))), (b 29, .inl (cI, 6, .inl (fun _ => 0))), (b 30, .inl (cZ, 1040, .inl (fun _ => 0))), (b 31, .inl (cI, 1040, .inl (fun _ => 0))), (b 32, .inl (cI, 78, .inl (fun _ => 0))), (b 27, .inl (cI, 7, .inl (fun _ => 0)))] sz (fun (r : Int32) (u : (Nat → Int32)) => r = (-2)) (fun u : (Nat → Int32) => [(h0, oX10 b 0 0 0 0 0 0 0 0 (-1) 0 0 (-1) 0 0 0 0 0 0), (b 1, .inl (cI, 149, .inl (fun _ => 0))), (b 15, .inl (cZ, 80, .inl (fun _ => 0))), (b 16, .inl (cI, 7, .inl (fun _ => 0))), (b 21, .inl (cZ, 80, .inl (fun _ => 0))), (b 24, .inl (cI, 80, .inl (fun _ => 0))), (b 25, .inl (cI, 6, .inl (fun _ => 0))), (b 29, .inl (cI, 6, .inl (fun _ => 0))), (b 30, .inl (cZ, 1040, .inl (fun _ => 0))), (b 31, .inl (cI, 1040, .inl (fun _ => 0))), (b 32, .inl (cI, 78, .inl (fun _ => 0))), (b 27, .inl (cI, 7, .inl u))]) 0 0 := by
  refine CI.go (cc := cX10_moves) (maxL := 2) (ret := (some .int)) (by decide) rfl (Nat.le_of_ble_eq_true rfl) ?_
  intro p e s m below meth c A ls Q hBd hret
  obtain ⟨hx, hb, hr, hml, hts, hown, hlk, hnm, hP, hK, hD, hA, hZ, hl⟩ := hBd
  have hown : s.vm.findClass RX10 = some m.cls := hown
  have hl : lv_has ls 2 [(0, .ref h0), (1, .int p0)] := hl
  have hS : va_S A s.heap s.heap [] := va_S.rf
  refine lv_aload_n hx hb dX10_moves_0 rfl (lv_at hl 0 rfl) ?_
  refine lv_iload_n hx hb dX10_moves_1 rfl (lv_at hl 1 rfl) ?_
  refine k_i (wc := [(h0, oX10 b 0 0 0 0 0 0 0 0 (-1) 0 0 0 0 0 0 0 0 0), (b 1, .inl (cI, 149, .inl (fun _ => 0))), (b 15, .inl (cZ, 80, .inl (fun _ => 0))), (b 16, .inl (cI, 7, .inl (fun _ => 0))), (b 21, .inl (cZ, 80, .inl (fun _ => 0))), (b 24, .inl (cI, 80, .inl (fun _ => 0))), (b 25, .inl (cI, 6, .inl (fun _ => 0))), (b 29, .inl (cI, 6, .inl (fun _ => 0))), (b 30, .inl (cZ, 1040, .inl (fun _ => 0))), (b 31, .inl (cI, 1040, .inl (fun _ => 0))), (b 32, .inl (cI, 78, .inl (fun _ => 0))), (b 27, .inl (cI, 7, .inl (fun _ => 0)))]) (wr := []) hP hD hS hA [0, 1, 2, 3, 4, 5, 6, 7, 8, 9, 10, 11] [] rfl rfl rfl (by decide) (va_runV (As := [.int p0]) (rest := []) ⟨hx, hb, hml, hown, hts⟩ (f_X10_asksWidow l G cI cJ cZ cB cQ _ h0 b p0) (cwV 1 hts (gV w_1567 w_1569 wp_122 w_11 w_1570) rfl rfl rfl ⟨rfl, hd_X10_asksWidow⟩ ⟨Nat.le_of_ble_eq_true rfl, Nat.le_of_ble_eq_true rfl⟩) (mV hK hZ hP hD [0, 1, 2, 3, 4, 5, 6, 7, 8, 9, 10, 11] rfl rfl [.int p0] 0 10 rfl rfl) rfl rfl hl.1 rfl (lv_room (Nat.le_of_ble_eq_true rfl)) dX10_moves_2 ⟨Nat.le_of_ble_eq_true rfl, Nat.le_of_ble_eq_true rfl⟩) (fun r1 u2 H locs hw3 hP hD hS => ?_)
  obtain ⟨f04, rfl⟩ : ∃ z, z = u2 := ⟨_, rfl⟩
  try dsimp only at hw3
  have hP : va_P G vwCl [(h0, oX10 b 0 0 0 0 0 0 0 0 (-1) 0 0 (-1) 0 0 0 0 0 0), (b 1, .inl (cI, 149, .inl (fun _ => 0))), (b 15, .inl (cZ, 80, .inl (fun _ => 0))), (b 16, .inl (cI, 7, .inl (fun _ => 0))), (b 21, .inl (cZ, 80, .inl (fun _ => 0))), (b 24, .inl (cI, 80, .inl (fun _ => 0))), (b 25, .inl (cI, 6, .inl (fun _ => 0))), (b 29, .inl (cI, 6, .inl (fun _ => 0))), (b 30, .inl (cZ, 1040, .inl (fun _ => 0))), (b 31, .inl (cI, 1040, .inl (fun _ => 0))), (b 32, .inl (cI, 78, .inl (fun _ => 0))), (b 27, .inl (cI, 7, .inl f04))] H := hP
  have hD : va_D A [(h0, oX10 b 0 0 0 0 0 0 0 0 (-1) 0 0 (-1) 0 0 0 0 0 0), (b 1, .inl (cI, 149, .inl (fun _ => 0))), (b 15, .inl (cZ, 80, .inl (fun _ => 0))), (b 16, .inl (cI, 7, .inl (fun _ => 0))), (b 21, .inl (cZ, 80, .inl (fun _ => 0))), (b 24, .inl (cI, 80, .inl (fun _ => 0))), (b 25, .inl (cI, 6, .inl (fun _ => 0))), (b 29, .inl (cI, 6, .inl (fun _ => 0))), (b 30, .inl (cZ, 1040, .inl (fun _ => 0))), (b 31, .inl (cI, 1040, .inl (fun _ => 0))), (b 32, .inl (cI, 78, .inl (fun _ => 0))), (b 27, .inl (cI, 7, .inl f04))] := hD
  obtain rfl : r1 = 0 := hw3
  refine lv_if_ne (tgt := 11) hx hb dX10_moves_5 (by decide) (fun c5 => absurd (by decide) c5) (fun c5 => ?_)
  refine lv_bipush (v := (-2)) hx hb dX10_moves_8 (by decide) ?_
  exact hret _ _ _ _ (-2) f04 hP hD hS dX10_moves_10 rfl
set_option maxHeartbeats 4000000 in
set_option maxRecDepth 100000 in
theorem f_X10_served (l : Launch) (G : va_G) (cI cJ cZ cB cQ : ClassId) (sz : Nat) (h0 : Nat) (b : Nat → Nat) (p0 : Int32) : CI l yX10_served (wl_ yX10_served cX10_served 4 (some .int)) ({ frames := 5, cells := 0, slots := 0, locals := 103 } : Room) G (TY cI cJ cZ cB cQ) [.ref h0, .int p0] [(h0, oX10 b 0 0 0 0 0 0 0 0 (-1) 0 0 0 0 0 0 0 0 0), (b 1, .inl (cI, 149, .inl (fun _ => 0))), (b 15, .inl (cZ, 80, .inl (fun _ => 0))), (b 16, .inl (cI, 7, .inl (fun _ => 0))), (b 21, .inl (cZ, 80, .inl (fun _ => 0))), (b 24, .inl (cI, 80, .inl (fun _ => 0))), (b 25, .inl (cI, 6, .inl (fun _ => 0))), (b 29, .inl (cI, 6, .inl (fun _ => 0))), (b 30, .inl (cZ, 1040, .inl (fun _ => 0))), (b 31, .inl (cI, 1040, .inl (fun _ => 0))), (b 32, .inl (cI, 78, .inl (fun _ => 0))), (b 27, .inl (cI, 7, .inl (fun _ => 0)))] sz (fun (r : Int32) (u : (Nat → Int32)) => r = (-2)) (fun u : (Nat → Int32) => [(h0, oX10 b 0 0 0 0 0 0 0 0 (-1) 0 0 (-1) 0 0 0 0 0 0), (b 1, .inl (cI, 149, .inl (fun _ => 0))), (b 15, .inl (cZ, 80, .inl (fun _ => 0))), (b 16, .inl (cI, 7, .inl (fun _ => 0))), (b 21, .inl (cZ, 80, .inl (fun _ => 0))), (b 24, .inl (cI, 80, .inl (fun _ => 0))), (b 25, .inl (cI, 6, .inl (fun _ => 0))), (b 29, .inl (cI, 6, .inl (fun _ => 0))), (b 30, .inl (cZ, 1040, .inl (fun _ => 0))), (b 31, .inl (cI, 1040, .inl (fun _ => 0))), (b 32, .inl (cI, 78, .inl (fun _ => 0))), (b 27, .inl (cI, 7, .inl u))]) 0 0 := by
  refine CI.go (cc := cX10_served) (maxL := 4) (ret := (some .int)) (by decide) rfl (Nat.le_of_ble_eq_true rfl) ?_
  intro p e s m below meth c A ls Q hBd hret
  obtain ⟨hx, hb, hr, hml, hts, hown, hlk, hnm, hP, hK, hD, hA, hZ, hl⟩ := hBd
  have hown : s.vm.findClass RX10 = some m.cls := hown
  have hl : lv_has ls 4 [(0, .ref h0), (1, .int p0)] := hl
  have hS : va_S A s.heap s.heap [] := va_S.rf
  refine lv_aload_n hx hb dX10_served_0 rfl (lv_at hl 0 rfl) ?_
  refine lv_iload_n hx hb dX10_served_1 rfl (lv_at hl 1 rfl) ?_
  refine k_i (wc := [(h0, oX10 b 0 0 0 0 0 0 0 0 (-1) 0 0 0 0 0 0 0 0 0), (b 1, .inl (cI, 149, .inl (fun _ => 0))), (b 15, .inl (cZ, 80, .inl (fun _ => 0))), (b 16, .inl (cI, 7, .inl (fun _ => 0))), (b 21, .inl (cZ, 80, .inl (fun _ => 0))), (b 24, .inl (cI, 80, .inl (fun _ => 0))), (b 25, .inl (cI, 6, .inl (fun _ => 0))), (b 29, .inl (cI, 6, .inl (fun _ => 0))), (b 30, .inl (cZ, 1040, .inl (fun _ => 0))), (b 31, .inl (cI, 1040, .inl (fun _ => 0))), (b 32, .inl (cI, 78, .inl (fun _ => 0))), (b 27, .inl (cI, 7, .inl (fun _ => 0)))]) (wr := []) hP hD hS hA [0, 1, 2, 3, 4, 5, 6, 7, 8, 9, 10, 11] [] rfl rfl rfl (by decide) (va_runV (As := [.int p0]) (rest := []) ⟨hx, hb, hml, hown, hts⟩ (f_X10_asksYear l G cI cJ cZ cB cQ _ h0 b p0) (cwV 1 hts (gV w_1620 w_1622 wp_128 w_11 w_1623) rfl rfl rfl ⟨rfl, hd_X10_asksYear⟩ ⟨Nat.le_of_ble_eq_true rfl, Nat.le_of_ble_eq_true rfl⟩) (mV hK hZ hP hD [0, 1, 2, 3, 4, 5, 6, 7, 8, 9, 10, 11] rfl rfl [.int p0] 0 10 rfl rfl) rfl rfl hl.1 rfl (lv_room (Nat.le_of_ble_eq_true rfl)) dX10_served_2 ⟨Nat.le_of_ble_eq_true rfl, Nat.le_of_ble_eq_true rfl⟩) (fun r1 u2 H locs hw3 hP hD hS => ?_)
  obtain ⟨f04, rfl⟩ : ∃ z, z = u2 := ⟨_, rfl⟩
  try dsimp only at hw3
  have hP : va_P G vwCl [(h0, oX10 b 0 0 0 0 0 0 0 0 (-1) 0 0 (-1) 0 0 0 0 0 0), (b 1, .inl (cI, 149, .inl (fun _ => 0))), (b 15, .inl (cZ, 80, .inl (fun _ => 0))), (b 16, .inl (cI, 7, .inl (fun _ => 0))), (b 21, .inl (cZ, 80, .inl (fun _ => 0))), (b 24, .inl (cI, 80, .inl (fun _ => 0))), (b 25, .inl (cI, 6, .inl (fun _ => 0))), (b 29, .inl (cI, 6, .inl (fun _ => 0))), (b 30, .inl (cZ, 1040, .inl (fun _ => 0))), (b 31, .inl (cI, 1040, .inl (fun _ => 0))), (b 32, .inl (cI, 78, .inl (fun _ => 0))), (b 27, .inl (cI, 7, .inl f04))] H := hP
  have hD : va_D A [(h0, oX10 b 0 0 0 0 0 0 0 0 (-1) 0 0 (-1) 0 0 0 0 0 0), (b 1, .inl (cI, 149, .inl (fun _ => 0))), (b 15, .inl (cZ, 80, .inl (fun _ => 0))), (b 16, .inl (cI, 7, .inl (fun _ => 0))), (b 21, .inl (cZ, 80, .inl (fun _ => 0))), (b 24, .inl (cI, 80, .inl (fun _ => 0))), (b 25, .inl (cI, 6, .inl (fun _ => 0))), (b 29, .inl (cI, 6, .inl (fun _ => 0))), (b 30, .inl (cZ, 1040, .inl (fun _ => 0))), (b 31, .inl (cI, 1040, .inl (fun _ => 0))), (b 32, .inl (cI, 78, .inl (fun _ => 0))), (b 27, .inl (cI, 7, .inl f04))] := hD
  obtain rfl : r1 = 0 := hw3
  refine lv_if_ne (tgt := 11) hx hb dX10_served_5 (by decide) (fun c5 => absurd (by decide) c5) (fun c5 => ?_)
  refine lv_bipush (v := (-2)) hx hb dX10_served_8 (by decide) ?_
  exact hret _ _ _ _ (-2) f04 hP hD hS dX10_served_10 rfl
set_option maxHeartbeats 4000000 in
set_option maxRecDepth 100000 in
theorem f_X10_cover (l : Launch) (G : va_G) (cI cJ cZ cB cQ : ClassId) (sz : Nat) (h0 : Nat) (b : Nat → Nat) : CI l yX10_cover (wl_ yX10_cover cX10_cover 1 (some .int)) ({ frames := 4, cells := 0, slots := 0, locals := 82 } : Room) G (TY cI cJ cZ cB cQ) [.ref h0] [(h0, oX10 b 0 0 0 0 0 0 0 0 (-1) 0 0 0 0 0 0 0 0 0), (b 1, .inl (cI, 149, .inl (fun _ => 0))), (b 15, .inl (cZ, 80, .inl (fun _ => 0))), (b 16, .inl (cI, 7, .inl (fun _ => 0))), (b 21, .inl (cZ, 80, .inl (fun _ => 0))), (b 24, .inl (cI, 80, .inl (fun _ => 0))), (b 25, .inl (cI, 6, .inl (fun _ => 0))), (b 29, .inl (cI, 6, .inl (fun _ => 0))), (b 30, .inl (cZ, 1040, .inl (fun _ => 0))), (b 31, .inl (cI, 1040, .inl (fun _ => 0))), (b 32, .inl (cI, 78, .inl (fun _ => 0))), (b 27, .inl (cI, 7, .inl (fun _ => 0)))] sz (fun (r : Int32) (u : (Nat → Int32)) => r = (-2)) (fun u : (Nat → Int32) => [(h0, oX10 b 0 0 0 0 0 0 0 0 (-1) 0 0 (-1) 0 0 0 0 0 0), (b 1, .inl (cI, 149, .inl (fun _ => 0))), (b 15, .inl (cZ, 80, .inl (fun _ => 0))), (b 16, .inl (cI, 7, .inl (fun _ => 0))), (b 21, .inl (cZ, 80, .inl (fun _ => 0))), (b 24, .inl (cI, 80, .inl (fun _ => 0))), (b 25, .inl (cI, 6, .inl (fun _ => 0))), (b 29, .inl (cI, 6, .inl (fun _ => 0))), (b 30, .inl (cZ, 1040, .inl (fun _ => 0))), (b 31, .inl (cI, 1040, .inl (fun _ => 0))), (b 32, .inl (cI, 78, .inl (fun _ => 0))), (b 27, .inl (cI, 7, .inl u))]) 0 0 := by
  refine CI.go (cc := cX10_cover) (maxL := 1) (ret := (some .int)) (by decide) rfl (Nat.le_of_ble_eq_true rfl) ?_
  intro p e s m below meth c A ls Q hBd hret
  obtain ⟨hx, hb, hr, hml, hts, hown, hlk, hnm, hP, hK, hD, hA, hZ, hl⟩ := hBd
  have hown : s.vm.findClass RX10 = some m.cls := hown
  have hl : lv_has ls 1 [(0, .ref h0)] := hl
  have hS : va_S A s.heap s.heap [] := va_S.rf
  refine lv_aload_n hx hb dX10_cover_0 rfl (lv_at hl 0 rfl) ?_
  refine k_i (wc := [(h0, oX10 b 0 0 0 0 0 0 0 0 (-1) 0 0 0 0 0 0 0 0 0), (b 1, .inl (cI, 149, .inl (fun _ => 0))), (b 15, .inl (cZ, 80, .inl (fun _ => 0))), (b 16, .inl (cI, 7, .inl (fun _ => 0))), (b 21, .inl (cZ, 80, .inl (fun _ => 0))), (b 24, .inl (cI, 80, .inl (fun _ => 0))), (b 25, .inl (cI, 6, .inl (fun _ => 0))), (b 29, .inl (cI, 6, .inl (fun _ => 0))), (b 30, .inl (cZ, 1040, .inl (fun _ => 0))), (b 31, .inl (cI, 1040, .inl (fun _ => 0))), (b 32, .inl (cI, 78, .inl (fun _ => 0))), (b 27, .inl (cI, 7, .inl (fun _ => 0)))]) (wr := []) hP hD hS hA [0, 1, 2, 3, 4, 5, 6, 7, 8, 9, 10, 11] [] rfl rfl rfl (by decide) (va_runV (As := []) (rest := []) ⟨hx, hb, hml, hown, hts⟩ (f_X10_asksColony l G cI cJ cZ cB cQ _ h0 b) (cwV 0 hts (gV w_1485 w_1487 wp_105 w_11 w_1488) rfl rfl rfl ⟨rfl, hd_X10_asksColony⟩ ⟨Nat.le_of_ble_eq_true rfl, Nat.le_of_ble_eq_true rfl⟩) (mV hK hZ hP hD [0, 1, 2, 3, 4, 5, 6, 7, 8, 9, 10, 11] rfl rfl [] 0 10 rfl rfl) rfl rfl hl.1 rfl (lv_room (Nat.le_of_ble_eq_true rfl)) dX10_cover_1 ⟨Nat.le_of_ble_eq_true rfl, Nat.le_of_ble_eq_true rfl⟩) (fun r1 u2 H locs hw3 hP hD hS => ?_)
  obtain ⟨f04, rfl⟩ : ∃ z, z = u2 := ⟨_, rfl⟩
  try dsimp only at hw3
  have hP : va_P G vwCl [(h0, oX10 b 0 0 0 0 0 0 0 0 (-1) 0 0 (-1) 0 0 0 0 0 0), (b 1, .inl (cI, 149, .inl (fun _ => 0))), (b 15, .inl (cZ, 80, .inl (fun _ => 0))), (b 16, .inl (cI, 7, .inl (fun _ => 0))), (b 21, .inl (cZ, 80, .inl (fun _ => 0))), (b 24, .inl (cI, 80, .inl (fun _ => 0))), (b 25, .inl (cI, 6, .inl (fun _ => 0))), (b 29, .inl (cI, 6, .inl (fun _ => 0))), (b 30, .inl (cZ, 1040, .inl (fun _ => 0))), (b 31, .inl (cI, 1040, .inl (fun _ => 0))), (b 32, .inl (cI, 78, .inl (fun _ => 0))), (b 27, .inl (cI, 7, .inl f04))] H := hP
  have hD : va_D A [(h0, oX10 b 0 0 0 0 0 0 0 0 (-1) 0 0 (-1) 0 0 0 0 0 0), (b 1, .inl (cI, 149, .inl (fun _ => 0))), (b 15, .inl (cZ, 80, .inl (fun _ => 0))), (b 16, .inl (cI, 7, .inl (fun _ => 0))), (b 21, .inl (cZ, 80, .inl (fun _ => 0))), (b 24, .inl (cI, 80, .inl (fun _ => 0))), (b 25, .inl (cI, 6, .inl (fun _ => 0))), (b 29, .inl (cI, 6, .inl (fun _ => 0))), (b 30, .inl (cZ, 1040, .inl (fun _ => 0))), (b 31, .inl (cI, 1040, .inl (fun _ => 0))), (b 32, .inl (cI, 78, .inl (fun _ => 0))), (b 27, .inl (cI, 7, .inl f04))] := hD
  obtain rfl : r1 = 0 := hw3
  refine lv_if_eq (tgt := 17) hx hb dX10_cover_4 (by decide) (fun c5 => ?_) (fun c5 => absurd (by decide) c5)
  refine lv_bipush (v := (-2)) hx hb dX10_cover_17 (by decide) ?_
  exact hret _ _ _ _ (-2) f04 hP hD hS dX10_cover_19 rfl
set_option maxHeartbeats 4000000 in
set_option maxRecDepth 100000 in
theorem f_X10_covers (l : Launch) (G : va_G) (cI cJ cZ cB cQ : ClassId) (sz : Nat) (h0 : Nat) (b : Nat → Nat) : CI l yX10_covers (wl_ yX10_covers cX10_covers 1 (some .int)) ({ frames := 4, cells := 0, slots := 0, locals := 82 } : Room) G (TY cI cJ cZ cB cQ) [.ref h0] [(h0, oX10 b 0 0 0 0 0 0 0 0 (-1) 0 0 0 0 0 0 0 0 0), (b 1, .inl (cI, 149, .inl (fun _ => 0))), (b 15, .inl (cZ, 80, .inl (fun _ => 0))), (b 16, .inl (cI, 7, .inl (fun _ => 0))), (b 21, .inl (cZ, 80, .inl (fun _ => 0))), (b 24, .inl (cI, 80, .inl (fun _ => 0))), (b 25, .inl (cI, 6, .inl (fun _ => 0))), (b 29, .inl (cI, 6, .inl (fun _ => 0))), (b 30, .inl (cZ, 1040, .inl (fun _ => 0))), (b 31, .inl (cI, 1040, .inl (fun _ => 0))), (b 32, .inl (cI, 78, .inl (fun _ => 0))), (b 27, .inl (cI, 7, .inl (fun _ => 0)))] sz (fun (r : Int32) (u : (Nat → Int32)) => r = (-2)) (fun u : (Nat → Int32) => [(h0, oX10 b 0 0 0 0 0 0 0 0 (-1) 0 0 (-1) 0 0 0 0 0 0), (b 1, .inl (cI, 149, .inl (fun _ => 0))), (b 15, .inl (cZ, 80, .inl (fun _ => 0))), (b 16, .inl (cI, 7, .inl (fun _ => 0))), (b 21, .inl (cZ, 80, .inl (fun _ => 0))), (b 24, .inl (cI, 80, .inl (fun _ => 0))), (b 25, .inl (cI, 6, .inl (fun _ => 0))), (b 29, .inl (cI, 6, .inl (fun _ => 0))), (b 30, .inl (cZ, 1040, .inl (fun _ => 0))), (b 31, .inl (cI, 1040, .inl (fun _ => 0))), (b 32, .inl (cI, 78, .inl (fun _ => 0))), (b 27, .inl (cI, 7, .inl u))]) 0 0 := by
  refine CI.go (cc := cX10_covers) (maxL := 1) (ret := (some .int)) (by decide) rfl (Nat.le_of_ble_eq_true rfl) ?_
  intro p e s m below meth c A ls Q hBd hret
  obtain ⟨hx, hb, hr, hml, hts, hown, hlk, hnm, hP, hK, hD, hA, hZ, hl⟩ := hBd
  have hown : s.vm.findClass RX10 = some m.cls := hown
  have hl : lv_has ls 1 [(0, .ref h0)] := hl
  have hS : va_S A s.heap s.heap [] := va_S.rf
  refine lv_aload_n hx hb dX10_covers_0 rfl (lv_at hl 0 rfl) ?_
  refine k_i (wc := [(h0, oX10 b 0 0 0 0 0 0 0 0 (-1) 0 0 0 0 0 0 0 0 0), (b 1, .inl (cI, 149, .inl (fun _ => 0))), (b 15, .inl (cZ, 80, .inl (fun _ => 0))), (b 16, .inl (cI, 7, .inl (fun _ => 0))), (b 21, .inl (cZ, 80, .inl (fun _ => 0))), (b 24, .inl (cI, 80, .inl (fun _ => 0))), (b 25, .inl (cI, 6, .inl (fun _ => 0))), (b 29, .inl (cI, 6, .inl (fun _ => 0))), (b 30, .inl (cZ, 1040, .inl (fun _ => 0))), (b 31, .inl (cI, 1040, .inl (fun _ => 0))), (b 32, .inl (cI, 78, .inl (fun _ => 0))), (b 27, .inl (cI, 7, .inl (fun _ => 0)))]) (wr := []) hP hD hS hA [0, 1, 2, 3, 4, 5, 6, 7, 8, 9, 10, 11] [] rfl rfl rfl (by decide) (va_runV (As := []) (rest := []) ⟨hx, hb, hml, hown, hts⟩ (f_X10_asksColony l G cI cJ cZ cB cQ _ h0 b) (cwV 0 hts (gV w_1485 w_1487 wp_105 w_11 w_1488) rfl rfl rfl ⟨rfl, hd_X10_asksColony⟩ ⟨Nat.le_of_ble_eq_true rfl, Nat.le_of_ble_eq_true rfl⟩) (mV hK hZ hP hD [0, 1, 2, 3, 4, 5, 6, 7, 8, 9, 10, 11] rfl rfl [] 0 10 rfl rfl) rfl rfl hl.1 rfl (lv_room (Nat.le_of_ble_eq_true rfl)) dX10_covers_1 ⟨Nat.le_of_ble_eq_true rfl, Nat.le_of_ble_eq_true rfl⟩) (fun r1 u2 H locs hw3 hP hD hS => ?_)
  obtain ⟨f04, rfl⟩ : ∃ z, z = u2 := ⟨_, rfl⟩
  try dsimp only at hw3
  have hP : va_P G vwCl [(h0, oX10 b 0 0 0 0 0 0 0 0 (-1) 0 0 (-1) 0 0 0 0 0 0), (b 1, .inl (cI, 149, .inl (fun _ => 0))), (b 15, .inl (cZ, 80, .inl (fun _ => 0))), (b 16, .inl (cI, 7, .inl (fun _ => 0))), (b 21, .inl (cZ, 80, .inl (fun _ => 0))), (b 24, .inl (cI, 80, .inl (fun _ => 0))), (b 25, .inl (cI, 6, .inl (fun _ => 0))), (b 29, .inl (cI, 6, .inl (fun _ => 0))), (b 30, .inl (cZ, 1040, .inl (fun _ => 0))), (b 31, .inl (cI, 1040, .inl (fun _ => 0))), (b 32, .inl (cI, 78, .inl (fun _ => 0))), (b 27, .inl (cI, 7, .inl f04))] H := hP
  have hD : va_D A [(h0, oX10 b 0 0 0 0 0 0 0 0 (-1) 0 0 (-1) 0 0 0 0 0 0), (b 1, .inl (cI, 149, .inl (fun _ => 0))), (b 15, .inl (cZ, 80, .inl (fun _ => 0))), (b 16, .inl (cI, 7, .inl (fun _ => 0))), (b 21, .inl (cZ, 80, .inl (fun _ => 0))), (b 24, .inl (cI, 80, .inl (fun _ => 0))), (b 25, .inl (cI, 6, .inl (fun _ => 0))), (b 29, .inl (cI, 6, .inl (fun _ => 0))), (b 30, .inl (cZ, 1040, .inl (fun _ => 0))), (b 31, .inl (cI, 1040, .inl (fun _ => 0))), (b 32, .inl (cI, 78, .inl (fun _ => 0))), (b 27, .inl (cI, 7, .inl f04))] := hD
  obtain rfl : r1 = 0 := hw3
  refine lv_if_eq (tgt := 14) hx hb dX10_covers_4 (by decide) (fun c5 => ?_) (fun c5 => absurd (by decide) c5)
  refine lv_bipush (v := (-2)) hx hb dX10_covers_14 (by decide) ?_
  exact hret _ _ _ _ (-2) f04 hP hD hS dX10_covers_16 rfl
set_option maxHeartbeats 4000000 in
set_option maxRecDepth 100000 in
theorem f_X10_blame (l : Launch) (G : va_G) (cI cJ cZ cB cQ : ClassId) (sz : Nat) (h0 : Nat) (b : Nat → Nat) : CI l yX10_blame (wl_ yX10_blame cX10_blame 5 (some .int)) ({ frames := 4, cells := 0, slots := 0, locals := 82 } : Room) G (TY cI cJ cZ cB cQ) [.ref h0] [(h0, oX10 b 0 0 0 0 0 0 0 0 (-1) 0 0 0 0 0 0 0 0 0), (b 1, .inl (cI, 149, .inl (fun _ => 0))), (b 15, .inl (cZ, 80, .inl (fun _ => 0))), (b 16, .inl (cI, 7, .inl (fun _ => 0))), (b 21, .inl (cZ, 80, .inl (fun _ => 0))), (b 24, .inl (cI, 80, .inl (fun _ => 0))), (b 25, .inl (cI, 6, .inl (fun _ => 0))), (b 29, .inl (cI, 6, .inl (fun _ => 0))), (b 30, .inl (cZ, 1040, .inl (fun _ => 0))), (b 31, .inl (cI, 1040, .inl (fun _ => 0))), (b 32, .inl (cI, 78, .inl (fun _ => 0))), (b 27, .inl (cI, 7, .inl (fun _ => 0)))] sz (fun (r : Int32) (u : (Nat → Int32)) => r = (-2)) (fun u : (Nat → Int32) => [(h0, oX10 b 0 0 0 0 0 0 0 0 (-1) 0 0 (-1) 0 0 0 0 0 0), (b 1, .inl (cI, 149, .inl (fun _ => 0))), (b 15, .inl (cZ, 80, .inl (fun _ => 0))), (b 16, .inl (cI, 7, .inl (fun _ => 0))), (b 21, .inl (cZ, 80, .inl (fun _ => 0))), (b 24, .inl (cI, 80, .inl (fun _ => 0))), (b 25, .inl (cI, 6, .inl (fun _ => 0))), (b 29, .inl (cI, 6, .inl (fun _ => 0))), (b 30, .inl (cZ, 1040, .inl (fun _ => 0))), (b 31, .inl (cI, 1040, .inl (fun _ => 0))), (b 32, .inl (cI, 78, .inl (fun _ => 0))), (b 27, .inl (cI, 7, .inl u))]) 0 0 := by
  refine CI.go (cc := cX10_blame) (maxL := 5) (ret := (some .int)) (by decide) rfl (Nat.le_of_ble_eq_true rfl) ?_
  intro p e s m below meth c A ls Q hBd hret
  obtain ⟨hx, hb, hr, hml, hts, hown, hlk, hnm, hP, hK, hD, hA, hZ, hl⟩ := hBd
  have hown : s.vm.findClass RX10 = some m.cls := hown
  have hl : lv_has ls 5 [(0, .ref h0)] := hl
  have hS : va_S A s.heap s.heap [] := va_S.rf
  refine lv_aload_n hx hb dX10_blame_0 rfl (lv_at hl 0 rfl) ?_
  refine k_i (wc := [(h0, oX10 b 0 0 0 0 0 0 0 0 (-1) 0 0 0 0 0 0 0 0 0), (b 1, .inl (cI, 149, .inl (fun _ => 0))), (b 15, .inl (cZ, 80, .inl (fun _ => 0))), (b 16, .inl (cI, 7, .inl (fun _ => 0))), (b 21, .inl (cZ, 80, .inl (fun _ => 0))), (b 24, .inl (cI, 80, .inl (fun _ => 0))), (b 25, .inl (cI, 6, .inl (fun _ => 0))), (b 29, .inl (cI, 6, .inl (fun _ => 0))), (b 30, .inl (cZ, 1040, .inl (fun _ => 0))), (b 31, .inl (cI, 1040, .inl (fun _ => 0))), (b 32, .inl (cI, 78, .inl (fun _ => 0))), (b 27, .inl (cI, 7, .inl (fun _ => 0)))]) (wr := []) hP hD hS hA [0, 1, 2, 3, 4, 5, 6, 7, 8, 9, 10, 11] [] rfl rfl rfl (by decide) (va_runV (As := []) (rest := []) ⟨hx, hb, hml, hown, hts⟩ (f_X10_asksColony l G cI cJ cZ cB cQ _ h0 b) (cwV 0 hts (gV w_1485 w_1487 wp_105 w_11 w_1488) rfl rfl rfl ⟨rfl, hd_X10_asksColony⟩ ⟨Nat.le_of_ble_eq_true rfl, Nat.le_of_ble_eq_true rfl⟩) (mV hK hZ hP hD [0, 1, 2, 3, 4, 5, 6, 7, 8, 9, 10, 11] rfl rfl [] 0 10 rfl rfl) rfl rfl hl.1 rfl (lv_room (Nat.le_of_ble_eq_true rfl)) dX10_blame_1 ⟨Nat.le_of_ble_eq_true rfl, Nat.le_of_ble_eq_true rfl⟩) (fun r1 u2 H locs hw3 hP hD hS => ?_)
  obtain ⟨f04, rfl⟩ : ∃ z, z = u2 := ⟨_, rfl⟩
  try dsimp only at hw3
  have hP : va_P G vwCl [(h0, oX10 b 0 0 0 0 0 0 0 0 (-1) 0 0 (-1) 0 0 0 0 0 0), (b 1, .inl (cI, 149, .inl (fun _ => 0))), (b 15, .inl (cZ, 80, .inl (fun _ => 0))), (b 16, .inl (cI, 7, .inl (fun _ => 0))), (b 21, .inl (cZ, 80, .inl (fun _ => 0))), (b 24, .inl (cI, 80, .inl (fun _ => 0))), (b 25, .inl (cI, 6, .inl (fun _ => 0))), (b 29, .inl (cI, 6, .inl (fun _ => 0))), (b 30, .inl (cZ, 1040, .inl (fun _ => 0))), (b 31, .inl (cI, 1040, .inl (fun _ => 0))), (b 32, .inl (cI, 78, .inl (fun _ => 0))), (b 27, .inl (cI, 7, .inl f04))] H := hP
  have hD : va_D A [(h0, oX10 b 0 0 0 0 0 0 0 0 (-1) 0 0 (-1) 0 0 0 0 0 0), (b 1, .inl (cI, 149, .inl (fun _ => 0))), (b 15, .inl (cZ, 80, .inl (fun _ => 0))), (b 16, .inl (cI, 7, .inl (fun _ => 0))), (b 21, .inl (cZ, 80, .inl (fun _ => 0))), (b 24, .inl (cI, 80, .inl (fun _ => 0))), (b 25, .inl (cI, 6, .inl (fun _ => 0))), (b 29, .inl (cI, 6, .inl (fun _ => 0))), (b 30, .inl (cZ, 1040, .inl (fun _ => 0))), (b 31, .inl (cI, 1040, .inl (fun _ => 0))), (b 32, .inl (cI, 78, .inl (fun _ => 0))), (b 27, .inl (cI, 7, .inl f04))] := hD
  obtain rfl : r1 = 0 := hw3
  refine lv_if_ne (tgt := 10) hx hb dX10_blame_4 (by decide) (fun c5 => absurd (by decide) c5) (fun c5 => ?_)
  refine lv_bipush (v := (-2)) hx hb dX10_blame_7 (by decide) ?_
  exact hret _ _ _ _ (-2) f04 hP hD hS dX10_blame_9 rfl
set_option maxHeartbeats 4000000 in
set_option maxRecDepth 100000 in
theorem f_X10_ford (l : Launch) (G : va_G) (cI cJ cZ cB cQ : ClassId) (sz : Nat) (h0 : Nat) (b : Nat → Nat) : CI l yX10_ford (wl_ yX10_ford cX10_ford 5 (some .int)) ({ frames := 4, cells := 0, slots := 0, locals := 82 } : Room) G (TY cI cJ cZ cB cQ) [.ref h0] [(h0, oX10 b 0 0 0 0 0 0 0 0 (-1) 0 0 0 0 0 0 0 0 0), (b 1, .inl (cI, 149, .inl (fun _ => 0))), (b 15, .inl (cZ, 80, .inl (fun _ => 0))), (b 16, .inl (cI, 7, .inl (fun _ => 0))), (b 21, .inl (cZ, 80, .inl (fun _ => 0))), (b 24, .inl (cI, 80, .inl (fun _ => 0))), (b 25, .inl (cI, 6, .inl (fun _ => 0))), (b 29, .inl (cI, 6, .inl (fun _ => 0))), (b 30, .inl (cZ, 1040, .inl (fun _ => 0))), (b 31, .inl (cI, 1040, .inl (fun _ => 0))), (b 32, .inl (cI, 78, .inl (fun _ => 0))), (b 27, .inl (cI, 7, .inl (fun _ => 0)))] sz (fun (r : Int32) (u : (Nat → Int32)) => r = (-2)) (fun u : (Nat → Int32) => [(h0, oX10 b 0 0 0 0 0 0 0 0 (-1) 0 0 (-1) 0 0 0 0 0 0), (b 1, .inl (cI, 149, .inl (fun _ => 0))), (b 15, .inl (cZ, 80, .inl (fun _ => 0))), (b 16, .inl (cI, 7, .inl (fun _ => 0))), (b 21, .inl (cZ, 80, .inl (fun _ => 0))), (b 24, .inl (cI, 80, .inl (fun _ => 0))), (b 25, .inl (cI, 6, .inl (fun _ => 0))), (b 29, .inl (cI, 6, .inl (fun _ => 0))), (b 30, .inl (cZ, 1040, .inl (fun _ => 0))), (b 31, .inl (cI, 1040, .inl (fun _ => 0))), (b 32, .inl (cI, 78, .inl (fun _ => 0))), (b 27, .inl (cI, 7, .inl u))]) 0 0 := by
  refine CI.go (cc := cX10_ford) (maxL := 5) (ret := (some .int)) (by decide) rfl (Nat.le_of_ble_eq_true rfl) ?_
  intro p e s m below meth c A ls Q hBd hret
  obtain ⟨hx, hb, hr, hml, hts, hown, hlk, hnm, hP, hK, hD, hA, hZ, hl⟩ := hBd
  have hown : s.vm.findClass RX10 = some m.cls := hown
  have hl : lv_has ls 5 [(0, .ref h0)] := hl
  have hS : va_S A s.heap s.heap [] := va_S.rf
  refine lv_aload_n hx hb dX10_ford_0 rfl (lv_at hl 0 rfl) ?_
  refine k_i (wc := [(h0, oX10 b 0 0 0 0 0 0 0 0 (-1) 0 0 0 0 0 0 0 0 0), (b 1, .inl (cI, 149, .inl (fun _ => 0))), (b 15, .inl (cZ, 80, .inl (fun _ => 0))), (b 16, .inl (cI, 7, .inl (fun _ => 0))), (b 21, .inl (cZ, 80, .inl (fun _ => 0))), (b 24, .inl (cI, 80, .inl (fun _ => 0))), (b 25, .inl (cI, 6, .inl (fun _ => 0))), (b 29, .inl (cI, 6, .inl (fun _ => 0))), (b 30, .inl (cZ, 1040, .inl (fun _ => 0))), (b 31, .inl (cI, 1040, .inl (fun _ => 0))), (b 32, .inl (cI, 78, .inl (fun _ => 0))), (b 27, .inl (cI, 7, .inl (fun _ => 0)))]) (wr := []) hP hD hS hA [0, 1, 2, 3, 4, 5, 6, 7, 8, 9, 10, 11] [] rfl rfl rfl (by decide) (va_runV (As := []) (rest := []) ⟨hx, hb, hml, hown, hts⟩ (f_X10_asksColony l G cI cJ cZ cB cQ _ h0 b) (cwV 0 hts (gV w_1485 w_1487 wp_105 w_11 w_1488) rfl rfl rfl ⟨rfl, hd_X10_asksColony⟩ ⟨Nat.le_of_ble_eq_true rfl, Nat.le_of_ble_eq_true rfl⟩) (mV hK hZ hP hD [0, 1, 2, 3, 4, 5, 6, 7, 8, 9, 10, 11] rfl rfl [] 0 10 rfl rfl) rfl rfl hl.1 rfl (lv_room (Nat.le_of_ble_eq_true rfl)) dX10_ford_1 ⟨Nat.le_of_ble_eq_true rfl, Nat.le_of_ble_eq_true rfl⟩) (fun r1 u2 H locs hw3 hP hD hS => ?_)
  obtain ⟨f04, rfl⟩ : ∃ z, z = u2 := ⟨_, rfl⟩
  try dsimp only at hw3
  have hP : va_P G vwCl [(h0, oX10 b 0 0 0 0 0 0 0 0 (-1) 0 0 (-1) 0 0 0 0 0 0), (b 1, .inl (cI, 149, .inl (fun _ => 0))), (b 15, .inl (cZ, 80, .inl (fun _ => 0))), (b 16, .inl (cI, 7, .inl (fun _ => 0))), (b 21, .inl (cZ, 80, .inl (fun _ => 0))), (b 24, .inl (cI, 80, .inl (fun _ => 0))), (b 25, .inl (cI, 6, .inl (fun _ => 0))), (b 29, .inl (cI, 6, .inl (fun _ => 0))), (b 30, .inl (cZ, 1040, .inl (fun _ => 0))), (b 31, .inl (cI, 1040, .inl (fun _ => 0))), (b 32, .inl (cI, 78, .inl (fun _ => 0))), (b 27, .inl (cI, 7, .inl f04))] H := hP
  have hD : va_D A [(h0, oX10 b 0 0 0 0 0 0 0 0 (-1) 0 0 (-1) 0 0 0 0 0 0), (b 1, .inl (cI, 149, .inl (fun _ => 0))), (b 15, .inl (cZ, 80, .inl (fun _ => 0))), (b 16, .inl (cI, 7, .inl (fun _ => 0))), (b 21, .inl (cZ, 80, .inl (fun _ => 0))), (b 24, .inl (cI, 80, .inl (fun _ => 0))), (b 25, .inl (cI, 6, .inl (fun _ => 0))), (b 29, .inl (cI, 6, .inl (fun _ => 0))), (b 30, .inl (cZ, 1040, .inl (fun _ => 0))), (b 31, .inl (cI, 1040, .inl (fun _ => 0))), (b 32, .inl (cI, 78, .inl (fun _ => 0))), (b 27, .inl (cI, 7, .inl f04))] := hD
  obtain rfl : r1 = 0 := hw3
  refine lv_if_ne (tgt := 10) hx hb dX10_ford_4 (by decide) (fun c5 => absurd (by decide) c5) (fun c5 => ?_)
  refine lv_bipush (v := (-2)) hx hb dX10_ford_7 (by decide) ?_
  exact hret _ _ _ _ (-2) f04 hP hD hS dX10_ford_9 rfl
set_option maxHeartbeats 4000000 in
set_option maxRecDepth 100000 in
theorem f_X10_faced (l : Launch) (G : va_G) (cI cJ cZ cB cQ : ClassId) (sz : Nat) (h0 : Nat) (b : Nat → Nat) (p0 : Int32) (p1 : Int32) : CI l yX10_faced (wl_ yX10_faced cX10_faced 4 (some .int)) ({ frames := 3, cells := 0, slots := 0, locals := 69 } : Room) G (TY cI cJ cZ cB cQ) [.ref h0, .int p0, .int p1] [(h0, oX10 b 0 0 0 0 0 0 0 0 (-1) 0 0 0 0 0 0 0 0 0), (b 1, .inl (cI, 149, .inl (fun _ => 0)))] sz (fun (r : Int32) (u : Unit) => r = (-2)) (fun _ : Unit => [(h0, oX10 b 0 0 0 0 0 0 0 0 (-1) 0 0 0 0 0 0 0 0 0), (b 1, .inl (cI, 149, .inl (fun _ => 0)))]) 0 0 := by
  refine CI.go (cc := cX10_faced) (maxL := 4) (ret := (some .int)) (by decide) rfl (Nat.le_of_ble_eq_true rfl) ?_
  intro p e s m below meth c A ls Q hBd hret
  obtain ⟨hx, hb, hr, hml, hts, hown, hlk, hnm, hP, hK, hD, hA, hZ, hl⟩ := hBd
  have hown : s.vm.findClass RX10 = some m.cls := hown
  have hl : lv_has ls 4 [(0, .ref h0), (1, .int p0), (2, .int p1)] := hl
  have hS : va_S A s.heap s.heap [] := va_S.rf
  refine lv_aload_n hx hb dX10_faced_0 rfl (lv_at hl 0 rfl) ?_
  refine lv_iload_n hx hb dX10_faced_1 rfl (lv_at hl 1 rfl) ?_
  refine lv_iload_n hx hb dX10_faced_2 rfl (lv_at hl 2 rfl) ?_
  refine k_i (wc := [(h0, oX10 b 0 0 0 0 0 0 0 0 (-1) 0 0 0 0 0 0 0 0 0), (b 1, .inl (cI, 149, .inl (fun _ => 0)))]) (wr := []) hP hD hS hA [0, 1] [] rfl rfl rfl (by decide) (va_runV (As := [.int p0, .int p1]) (rest := []) ⟨hx, hb, hml, hown, hts⟩ (f_X10_askSeen_ l G cI cJ cZ cB cQ _ h0 b 0 p0 p1) (cwV 2 hts (gV w_1808 w_1810 wp_146 w_11 w_1811) rfl rfl rfl ⟨rfl, hd_X10_askSeen_⟩ ⟨Nat.le_of_ble_eq_true rfl, Nat.le_of_ble_eq_true rfl⟩) (mV hK hZ hP hD [0, 1] rfl rfl [.int p0, .int p1] 0 10 rfl rfl) rfl rfl hl.1 rfl (lv_room (Nat.le_of_ble_eq_true rfl)) dX10_faced_3 ⟨Nat.le_of_ble_eq_true rfl, Nat.le_of_ble_eq_true rfl⟩) (fun r1 u2 H locs hw3 hP hD hS => ?_)
  try dsimp only at hw3
  have hP : va_P G vwCl [(h0, oX10 b 0 0 0 0 0 0 0 0 (-1) 0 0 0 0 0 0 0 0 0), (b 1, .inl (cI, 149, .inl (fun _ => 0)))] H := hP
  have hD : va_D A [(h0, oX10 b 0 0 0 0 0 0 0 0 (-1) 0 0 0 0 0 0 0 0 0), (b 1, .inl (cI, 149, .inl (fun _ => 0)))] := hD
  obtain rfl : r1 = (-2) := hw3
  refine lv_istore_n (lv' := [(3, .int (-2)), (0, .ref h0), (1, .int p0), (2, .int p1)]) hx hb dX10_faced_6 rfl hl (by decide) rfl (fun ls hl => ?_)
  refine lv_iload_n hx hb dX10_faced_7 rfl (lv_at hl 0 rfl) ?_
  refine lv_if_ge (tgt := 15) hx hb dX10_faced_8 (by decide) (fun c4 => absurd c4 (by decide)) (fun c4 => ?_)
  refine lv_iload_n hx hb dX10_faced_11 rfl (lv_at hl 0 rfl) ?_
  refine lv_goto (tgt := 21) hx hb dX10_faced_12 (by decide) ?_
  exact hret _ _ _ _ (-2) () hP hD hS dX10_faced_21 rfl
set_option maxHeartbeats 4000000 in
set_option maxRecDepth 100000 in
theorem f_X10_griefs (l : Launch) (G : va_G) (cI cJ cZ cB cQ : ClassId) (sz : Nat) (h0 : Nat) (b : Nat → Nat) (p0 : Int32) (p1 : Int32) : CI l yX10_griefs (wl_ yX10_griefs cX10_griefs 5 (some .int)) ({ frames := 3, cells := 0, slots := 0, locals := 69 } : Room) G (TY cI cJ cZ cB cQ) [.ref h0, .int p0, .int p1] [(h0, oX10 b 0 0 0 0 0 0 0 0 (-1) 0 0 0 0 0 0 0 0 0), (b 1, .inl (cI, 149, .inl (fun _ => 0)))] sz (fun (r : Int32) (u : Unit) => r = (-2)) (fun _ : Unit => [(h0, oX10 b 0 0 0 0 0 0 0 0 (-1) 0 0 0 0 0 0 0 0 0), (b 1, .inl (cI, 149, .inl (fun _ => 0)))]) 0 0 := by
  refine CI.go (cc := cX10_griefs) (maxL := 5) (ret := (some .int)) (by decide) rfl (Nat.le_of_ble_eq_true rfl) ?_
  intro p e s m below meth c A ls Q hBd hret
  obtain ⟨hx, hb, hr, hml, hts, hown, hlk, hnm, hP, hK, hD, hA, hZ, hl⟩ := hBd
  have hown : s.vm.findClass RX10 = some m.cls := hown
  have hl : lv_has ls 5 [(0, .ref h0), (1, .int p0), (2, .int p1)] := hl
  have hS : va_S A s.heap s.heap [] := va_S.rf
  refine lv_aload_n hx hb dX10_griefs_0 rfl (lv_at hl 0 rfl) ?_
  refine lv_iload_n hx hb dX10_griefs_1 rfl (lv_at hl 1 rfl) ?_
  refine lv_iload_n hx hb dX10_griefs_2 rfl (lv_at hl 2 rfl) ?_
  refine k_i (wc := [(h0, oX10 b 0 0 0 0 0 0 0 0 (-1) 0 0 0 0 0 0 0 0 0), (b 1, .inl (cI, 149, .inl (fun _ => 0)))]) (wr := []) hP hD hS hA [0, 1] [] rfl rfl rfl (by decide) (va_runV (As := [.int p0, .int p1]) (rest := []) ⟨hx, hb, hml, hown, hts⟩ (f_X10_askSeen_ l G cI cJ cZ cB cQ _ h0 b 0 p0 p1) (cwV 2 hts (gV w_1808 w_1810 wp_146 w_11 w_1811) rfl rfl rfl ⟨rfl, hd_X10_askSeen_⟩ ⟨Nat.le_of_ble_eq_true rfl, Nat.le_of_ble_eq_true rfl⟩) (mV hK hZ hP hD [0, 1] rfl rfl [.int p0, .int p1] 0 10 rfl rfl) rfl rfl hl.1 rfl (lv_room (Nat.le_of_ble_eq_true rfl)) dX10_griefs_3 ⟨Nat.le_of_ble_eq_true rfl, Nat.le_of_ble_eq_true rfl⟩) (fun r1 u2 H locs hw3 hP hD hS => ?_)
  try dsimp only at hw3
  have hP : va_P G vwCl [(h0, oX10 b 0 0 0 0 0 0 0 0 (-1) 0 0 0 0 0 0 0 0 0), (b 1, .inl (cI, 149, .inl (fun _ => 0)))] H := hP
  have hD : va_D A [(h0, oX10 b 0 0 0 0 0 0 0 0 (-1) 0 0 0 0 0 0 0 0 0), (b 1, .inl (cI, 149, .inl (fun _ => 0)))] := hD
  obtain rfl : r1 = (-2) := hw3
  refine lv_istore_n (lv' := [(3, .int (-2)), (0, .ref h0), (1, .int p0), (2, .int p1)]) hx hb dX10_griefs_6 rfl hl (by decide) rfl (fun ls hl => ?_)
  refine lv_iload_n hx hb dX10_griefs_7 rfl (lv_at hl 0 rfl) ?_
  refine lv_if_ge (tgt := 13) hx hb dX10_griefs_8 (by decide) (fun c4 => absurd c4 (by decide)) (fun c4 => ?_)
  refine lv_iload_n hx hb dX10_griefs_11 rfl (lv_at hl 0 rfl) ?_
  exact hret _ _ _ _ (-2) () hP hD hS dX10_griefs_12 rfl
set_option maxHeartbeats 4000000 in
set_option maxRecDepth 100000 in
theorem f_X10_ask (l : Launch) (G : va_G) (cI cJ cZ cB cQ : ClassId) (sz : Nat) (h0 : Nat) (b : Nat → Nat) (p0 : Int32) (p1 : Int32) : CI l yX10_ask (wl_ yX10_ask cX10_ask 4 (some .int)) ({ frames := 3, cells := 0, slots := 0, locals := 69 } : Room) G (TY cI cJ cZ cB cQ) [.ref h0, .int p0, .int p1] [(h0, oX10 b 0 0 0 0 0 0 0 0 (-1) 0 0 0 0 0 0 0 0 0), (b 1, .inl (cI, 149, .inl (fun _ => 0)))] sz (fun (r : Int32) (u : Unit) => r = (-2)) (fun _ : Unit => [(h0, oX10 b 0 0 0 0 0 0 0 0 (-1) 0 0 0 0 0 0 0 0 0), (b 1, .inl (cI, 149, .inl (fun _ => 0)))]) 0 0 := by
  refine CI.go (cc := cX10_ask) (maxL := 4) (ret := (some .int)) (by decide) rfl (Nat.le_of_ble_eq_true rfl) ?_
  intro p e s m below meth c A ls Q hBd hret
  obtain ⟨hx, hb, hr, hml, hts, hown, hlk, hnm, hP, hK, hD, hA, hZ, hl⟩ := hBd
  have hown : s.vm.findClass RX10 = some m.cls := hown
  have hl : lv_has ls 4 [(0, .ref h0), (1, .int p0), (2, .int p1)] := hl
  have hS : va_S A s.heap s.heap [] := va_S.rf
  refine lv_aload_n hx hb dX10_ask_0 rfl (lv_at hl 0 rfl) ?_
  refine lv_iload_n hx hb dX10_ask_1 rfl (lv_at hl 1 rfl) ?_
  refine lv_iload_n hx hb dX10_ask_2 rfl (lv_at hl 2 rfl) ?_
  refine k_i (wc := [(h0, oX10 b 0 0 0 0 0 0 0 0 (-1) 0 0 0 0 0 0 0 0 0), (b 1, .inl (cI, 149, .inl (fun _ => 0)))]) (wr := []) hP hD hS hA [0, 1] [] rfl rfl rfl (by decide) (va_runV (As := [.int p0, .int p1]) (rest := []) ⟨hx, hb, hml, hown, hts⟩ (f_X10_askSeen_ l G cI cJ cZ cB cQ _ h0 b 0 p0 p1) (cwV 2 hts (gV w_1808 w_1810 wp_146 w_11 w_1811) rfl rfl rfl ⟨rfl, hd_X10_askSeen_⟩ ⟨Nat.le_of_ble_eq_true rfl, Nat.le_of_ble_eq_true rfl⟩) (mV hK hZ hP hD [0, 1] rfl rfl [.int p0, .int p1] 0 10 rfl rfl) rfl rfl hl.1 rfl (lv_room (Nat.le_of_ble_eq_true rfl)) dX10_ask_3 ⟨Nat.le_of_ble_eq_true rfl, Nat.le_of_ble_eq_true rfl⟩) (fun r1 u2 H locs hw3 hP hD hS => ?_)
  try dsimp only at hw3
  have hP : va_P G vwCl [(h0, oX10 b 0 0 0 0 0 0 0 0 (-1) 0 0 0 0 0 0 0 0 0), (b 1, .inl (cI, 149, .inl (fun _ => 0)))] H := hP
  have hD : va_D A [(h0, oX10 b 0 0 0 0 0 0 0 0 (-1) 0 0 0 0 0 0 0 0 0), (b 1, .inl (cI, 149, .inl (fun _ => 0)))] := hD
  obtain rfl : r1 = (-2) := hw3
  refine lv_istore_n (lv' := [(3, .int (-2)), (0, .ref h0), (1, .int p0), (2, .int p1)]) hx hb dX10_ask_6 rfl hl (by decide) rfl (fun ls hl => ?_)
  refine lv_iload_n hx hb dX10_ask_7 rfl (lv_at hl 0 rfl) ?_
  refine lv_if_ge (tgt := 15) hx hb dX10_ask_8 (by decide) (fun c4 => absurd c4 (by decide)) (fun c4 => ?_)
  refine lv_iload_n hx hb dX10_ask_11 rfl (lv_at hl 0 rfl) ?_
  refine lv_goto (tgt := 25) hx hb dX10_ask_12 (by decide) ?_
  exact hret _ _ _ _ (-2) () hP hD hS dX10_ask_25 rfl
set_option maxHeartbeats 4000000 in
set_option maxRecDepth 100000 in
theorem f_X10_leaves (l : Launch) (G : va_G) (cI cJ cZ cB cQ : ClassId) (sz : Nat) (h0 : Nat) (b : Nat → Nat) (p0 : Int32) (p1 : Int32) : CI l yX10_leaves (wl_ yX10_leaves cX10_leaves 4 (some .int)) ({ frames := 3, cells := 0, slots := 0, locals := 69 } : Room) G (TY cI cJ cZ cB cQ) [.ref h0, .int p0, .int p1] [(h0, oX10 b 0 0 0 0 0 0 0 0 (-1) 0 0 0 0 0 0 0 0 0), (b 1, .inl (cI, 149, .inl (fun _ => 0)))] sz (fun (r : Int32) (u : Unit) => r = (-2)) (fun _ : Unit => [(h0, oX10 b 0 0 0 0 0 0 0 0 (-1) 0 0 0 0 0 0 0 0 0), (b 1, .inl (cI, 149, .inl (fun _ => 0)))]) 0 0 := by
  refine CI.go (cc := cX10_leaves) (maxL := 4) (ret := (some .int)) (by decide) rfl (Nat.le_of_ble_eq_true rfl) ?_
  intro p e s m below meth c A ls Q hBd hret
  obtain ⟨hx, hb, hr, hml, hts, hown, hlk, hnm, hP, hK, hD, hA, hZ, hl⟩ := hBd
  have hown : s.vm.findClass RX10 = some m.cls := hown
  have hl : lv_has ls 4 [(0, .ref h0), (1, .int p0), (2, .int p1)] := hl
  have hS : va_S A s.heap s.heap [] := va_S.rf
  refine lv_aload_n hx hb dX10_leaves_0 rfl (lv_at hl 0 rfl) ?_
  refine lv_iload_n hx hb dX10_leaves_1 rfl (lv_at hl 1 rfl) ?_
  refine lv_iload_n hx hb dX10_leaves_2 rfl (lv_at hl 2 rfl) ?_
  refine k_i (wc := [(h0, oX10 b 0 0 0 0 0 0 0 0 (-1) 0 0 0 0 0 0 0 0 0), (b 1, .inl (cI, 149, .inl (fun _ => 0)))]) (wr := []) hP hD hS hA [0, 1] [] rfl rfl rfl (by decide) (va_runV (As := [.int p0, .int p1]) (rest := []) ⟨hx, hb, hml, hown, hts⟩ (f_X10_askSeen_ l G cI cJ cZ cB cQ _ h0 b 0 p0 p1) (cwV 2 hts (gV w_1808 w_1810 wp_146 w_11 w_1811) rfl rfl rfl ⟨rfl, hd_X10_askSeen_⟩ ⟨Nat.le_of_ble_eq_true rfl, Nat.le_of_ble_eq_true rfl⟩) (mV hK hZ hP hD [0, 1] rfl rfl [.int p0, .int p1] 0 10 rfl rfl) rfl rfl hl.1 rfl (lv_room (Nat.le_of_ble_eq_true rfl)) dX10_leaves_3 ⟨Nat.le_of_ble_eq_true rfl, Nat.le_of_ble_eq_true rfl⟩) (fun r1 u2 H locs hw3 hP hD hS => ?_)
  try dsimp only at hw3
  have hP : va_P G vwCl [(h0, oX10 b 0 0 0 0 0 0 0 0 (-1) 0 0 0 0 0 0 0 0 0), (b 1, .inl (cI, 149, .inl (fun _ => 0)))] H := hP
  have hD : va_D A [(h0, oX10 b 0 0 0 0 0 0 0 0 (-1) 0 0 0 0 0 0 0 0 0), (b 1, .inl (cI, 149, .inl (fun _ => 0)))] := hD
  obtain rfl : r1 = (-2) := hw3
  refine lv_istore_n (lv' := [(3, .int (-2)), (0, .ref h0), (1, .int p0), (2, .int p1)]) hx hb dX10_leaves_6 rfl hl (by decide) rfl (fun ls hl => ?_)
  refine lv_iload_n hx hb dX10_leaves_7 rfl (lv_at hl 0 rfl) ?_
  refine lv_if_ge (tgt := 13) hx hb dX10_leaves_8 (by decide) (fun c4 => absurd c4 (by decide)) (fun c4 => ?_)
  refine lv_iload_n hx hb dX10_leaves_11 rfl (lv_at hl 0 rfl) ?_
  exact hret _ _ _ _ (-2) () hP hD hS dX10_leaves_12 rfl
set_option maxHeartbeats 4000000 in
set_option maxRecDepth 100000 in
theorem f_X10_laws (l : Launch) (G : va_G) (cI cJ cZ cB cQ : ClassId) (sz : Nat) (h0 : Nat) (b : Nat → Nat) (p0 : Int32) : CI l yX10_laws (wl_ yX10_laws cX10_laws 4 (some .int)) ({ frames := 3, cells := 0, slots := 0, locals := 67 } : Room) G (TY cI cJ cZ cB cQ) [.ref h0, .int p0] [(h0, oX10 b 0 0 0 0 0 0 0 0 (-1) 0 0 0 0 0 0 0 0 0), (b 1, .inl (cI, 149, .inl (fun _ => 0)))] sz (fun (r : Int32) (u : Unit) => r = (-2)) (fun _ : Unit => [(h0, oX10 b 0 0 0 0 0 0 0 0 (-1) 0 0 0 0 0 0 0 0 0), (b 1, .inl (cI, 149, .inl (fun _ => 0)))]) 0 0 := by
  refine CI.go (cc := cX10_laws) (maxL := 4) (ret := (some .int)) (by decide) rfl (Nat.le_of_ble_eq_true rfl) ?_
  intro p e s m below meth c A ls Q hBd hret
  obtain ⟨hx, hb, hr, hml, hts, hown, hlk, hnm, hP, hK, hD, hA, hZ, hl⟩ := hBd
  have hown : s.vm.findClass RX10 = some m.cls := hown
  have hl : lv_has ls 4 [(0, .ref h0), (1, .int p0)] := hl
  have hS : va_S A s.heap s.heap [] := va_S.rf
  refine lv_aload_n hx hb dX10_laws_0 rfl (lv_at hl 0 rfl) ?_
  refine lv_iload_n hx hb dX10_laws_1 rfl (lv_at hl 1 rfl) ?_
  refine k_i (wc := [(h0, oX10 b 0 0 0 0 0 0 0 0 (-1) 0 0 0 0 0 0 0 0 0), (b 1, .inl (cI, 149, .inl (fun _ => 0)))]) (wr := []) hP hD hS hA [0, 1] [] rfl rfl rfl (by decide) (va_runV (As := [.int p0]) (rest := []) ⟨hx, hb, hml, hown, hts⟩ (f_X10_askSeen l G cI cJ cZ cB cQ _ h0 b 0 p0) (cwV 1 hts (gV w_1812 w_1814 wp_147 w_11 w_1815) rfl rfl rfl ⟨rfl, hd_X10_askSeen⟩ ⟨Nat.le_of_ble_eq_true rfl, Nat.le_of_ble_eq_true rfl⟩) (mV hK hZ hP hD [0, 1] rfl rfl [.int p0] 0 10 rfl rfl) rfl rfl hl.1 rfl (lv_room (Nat.le_of_ble_eq_true rfl)) dX10_laws_2 ⟨Nat.le_of_ble_eq_true rfl, Nat.le_of_ble_eq_true rfl⟩) (fun r1 u2 H locs hw3 hP hD hS => ?_)
  try dsimp only at hw3
  have hP : va_P G vwCl [(h0, oX10 b 0 0 0 0 0 0 0 0 (-1) 0 0 0 0 0 0 0 0 0), (b 1, .inl (cI, 149, .inl (fun _ => 0)))] H := hP
  have hD : va_D A [(h0, oX10 b 0 0 0 0 0 0 0 0 (-1) 0 0 0 0 0 0 0 0 0), (b 1, .inl (cI, 149, .inl (fun _ => 0)))] := hD
  obtain rfl : r1 = (-2) := hw3
  refine lv_istore_n (lv' := [(2, .int (-2)), (0, .ref h0), (1, .int p0)]) hx hb dX10_laws_5 rfl hl (by decide) rfl (fun ls hl => ?_)
  refine lv_iload_n hx hb dX10_laws_6 rfl (lv_at hl 0 rfl) ?_
  refine lv_if_ge (tgt := 12) hx hb dX10_laws_7 (by decide) (fun c4 => absurd c4 (by decide)) (fun c4 => ?_)
  refine lv_iload_n hx hb dX10_laws_10 rfl (lv_at hl 0 rfl) ?_
  exact hret _ _ _ _ (-2) () hP hD hS dX10_laws_11 rfl
set_option maxHeartbeats 4000000 in
set_option maxRecDepth 100000 in
theorem f_X10_by (l : Launch) (G : va_G) (cI cJ cZ cB cQ : ClassId) (sz : Nat) (h0 : Nat) (b : Nat → Nat) (p0 : Int32) : CI l yX10_by (wl_ yX10_by cX10_by 2 (some .int)) ({ frames := 4, cells := 0, slots := 0, locals := 82 } : Room) G (TY cI cJ cZ cB cQ) [.ref h0, .int p0] [(h0, oX10 b 0 0 0 0 0 0 0 0 (-1) 0 0 0 0 0 0 0 0 0), (b 1, .inl (cI, 149, .inl (fun _ => 0))), (b 15, .inl (cZ, 80, .inl (fun _ => 0))), (b 16, .inl (cI, 7, .inl (fun _ => 0))), (b 21, .inl (cZ, 80, .inl (fun _ => 0))), (b 24, .inl (cI, 80, .inl (fun _ => 0))), (b 25, .inl (cI, 6, .inl (fun _ => 0))), (b 29, .inl (cI, 6, .inl (fun _ => 0))), (b 30, .inl (cZ, 1040, .inl (fun _ => 0))), (b 31, .inl (cI, 1040, .inl (fun _ => 0))), (b 32, .inl (cI, 78, .inl (fun _ => 0))), (b 27, .inl (cI, 7, .inl (fun _ => 0)))] sz (fun (r : Int32) (u : (Nat → Int32)) => r = (-2)) (fun u : (Nat → Int32) => [(h0, oX10 b 0 0 0 0 0 0 0 0 (-1) 0 0 (-1) 0 0 0 0 0 0), (b 1, .inl (cI, 149, .inl (fun _ => 0))), (b 15, .inl (cZ, 80, .inl (fun _ => 0))), (b 16, .inl (cI, 7, .inl (fun _ => 0))), (b 21, .inl (cZ, 80, .inl (fun _ => 0))), (b 24, .inl (cI, 80, .inl (fun _ => 0))), (b 25, .inl (cI, 6, .inl (fun _ => 0))), (b 29, .inl (cI, 6, .inl (fun _ => 0))), (b 30, .inl (cZ, 1040, .inl (fun _ => 0))), (b 31, .inl (cI, 1040, .inl (fun _ => 0))), (b 32, .inl (cI, 78, .inl (fun _ => 0))), (b 27, .inl (cI, 7, .inl u))]) 0 0 := by
  refine CI.go (cc := cX10_by) (maxL := 2) (ret := (some .int)) (by decide) rfl (Nat.le_of_ble_eq_true rfl) ?_
  intro p e s m below meth c A ls Q hBd hret
  obtain ⟨hx, hb, hr, hml, hts, hown, hlk, hnm, hP, hK, hD, hA, hZ, hl⟩ := hBd
  have hown : s.vm.findClass RX10 = some m.cls := hown
  have hl : lv_has ls 2 [(0, .ref h0), (1, .int p0)] := hl
  have hS : va_S A s.heap s.heap [] := va_S.rf
  refine lv_aload_n hx hb dX10_by_0 rfl (lv_at hl 0 rfl) ?_
  refine k_i (wc := [(h0, oX10 b 0 0 0 0 0 0 0 0 (-1) 0 0 0 0 0 0 0 0 0), (b 1, .inl (cI, 149, .inl (fun _ => 0))), (b 15, .inl (cZ, 80, .inl (fun _ => 0))), (b 16, .inl (cI, 7, .inl (fun _ => 0))), (b 21, .inl (cZ, 80, .inl (fun _ => 0))), (b 24, .inl (cI, 80, .inl (fun _ => 0))), (b 25, .inl (cI, 6, .inl (fun _ => 0))), (b 29, .inl (cI, 6, .inl (fun _ => 0))), (b 30, .inl (cZ, 1040, .inl (fun _ => 0))), (b 31, .inl (cI, 1040, .inl (fun _ => 0))), (b 32, .inl (cI, 78, .inl (fun _ => 0))), (b 27, .inl (cI, 7, .inl (fun _ => 0)))]) (wr := []) hP hD hS hA [0, 1, 2, 3, 4, 5, 6, 7, 8, 9, 10, 11] [] rfl rfl rfl (by decide) (va_runV (As := []) (rest := []) ⟨hx, hb, hml, hown, hts⟩ (f_X10_asksColony l G cI cJ cZ cB cQ _ h0 b) (cwV 0 hts (gV w_1485 w_1487 wp_105 w_11 w_1488) rfl rfl rfl ⟨rfl, hd_X10_asksColony⟩ ⟨Nat.le_of_ble_eq_true rfl, Nat.le_of_ble_eq_true rfl⟩) (mV hK hZ hP hD [0, 1, 2, 3, 4, 5, 6, 7, 8, 9, 10, 11] rfl rfl [] 0 10 rfl rfl) rfl rfl hl.1 rfl (lv_room (Nat.le_of_ble_eq_true rfl)) dX10_by_1 ⟨Nat.le_of_ble_eq_true rfl, Nat.le_of_ble_eq_true rfl⟩) (fun r1 u2 H locs hw3 hP hD hS => ?_)
  obtain ⟨f04, rfl⟩ : ∃ z, z = u2 := ⟨_, rfl⟩
  try dsimp only at hw3
  have hP : va_P G vwCl [(h0, oX10 b 0 0 0 0 0 0 0 0 (-1) 0 0 (-1) 0 0 0 0 0 0), (b 1, .inl (cI, 149, .inl (fun _ => 0))), (b 15, .inl (cZ, 80, .inl (fun _ => 0))), (b 16, .inl (cI, 7, .inl (fun _ => 0))), (b 21, .inl (cZ, 80, .inl (fun _ => 0))), (b 24, .inl (cI, 80, .inl (fun _ => 0))), (b 25, .inl (cI, 6, .inl (fun _ => 0))), (b 29, .inl (cI, 6, .inl (fun _ => 0))), (b 30, .inl (cZ, 1040, .inl (fun _ => 0))), (b 31, .inl (cI, 1040, .inl (fun _ => 0))), (b 32, .inl (cI, 78, .inl (fun _ => 0))), (b 27, .inl (cI, 7, .inl f04))] H := hP
  have hD : va_D A [(h0, oX10 b 0 0 0 0 0 0 0 0 (-1) 0 0 (-1) 0 0 0 0 0 0), (b 1, .inl (cI, 149, .inl (fun _ => 0))), (b 15, .inl (cZ, 80, .inl (fun _ => 0))), (b 16, .inl (cI, 7, .inl (fun _ => 0))), (b 21, .inl (cZ, 80, .inl (fun _ => 0))), (b 24, .inl (cI, 80, .inl (fun _ => 0))), (b 25, .inl (cI, 6, .inl (fun _ => 0))), (b 29, .inl (cI, 6, .inl (fun _ => 0))), (b 30, .inl (cZ, 1040, .inl (fun _ => 0))), (b 31, .inl (cI, 1040, .inl (fun _ => 0))), (b 32, .inl (cI, 78, .inl (fun _ => 0))), (b 27, .inl (cI, 7, .inl f04))] := hD
  obtain rfl : r1 = 0 := hw3
  refine lv_if_eq (tgt := 27) hx hb dX10_by_4 (by decide) (fun c5 => ?_) (fun c5 => absurd (by decide) c5)
  refine lv_bipush (v := (-2)) hx hb dX10_by_27 (by decide) ?_
  exact hret _ _ _ _ (-2) f04 hP hD hS dX10_by_29 rfl
set_option maxHeartbeats 4000000 in
set_option maxRecDepth 100000 in
theorem f_X10_law (l : Launch) (G : va_G) (cI cJ cZ cB cQ : ClassId) (sz : Nat) (h0 : Nat) (b : Nat → Nat) : CI l yX10_law (wl_ yX10_law cX10_law 3 (some .int)) ({ frames := 4, cells := 0, slots := 0, locals := 82 } : Room) G (TY cI cJ cZ cB cQ) [.ref h0] [(h0, oX10 b 0 0 0 0 0 0 0 0 (-1) 0 0 0 0 0 0 0 0 0), (b 1, .inl (cI, 149, .inl (fun _ => 0))), (b 15, .inl (cZ, 80, .inl (fun _ => 0))), (b 16, .inl (cI, 7, .inl (fun _ => 0))), (b 21, .inl (cZ, 80, .inl (fun _ => 0))), (b 24, .inl (cI, 80, .inl (fun _ => 0))), (b 25, .inl (cI, 6, .inl (fun _ => 0))), (b 29, .inl (cI, 6, .inl (fun _ => 0))), (b 30, .inl (cZ, 1040, .inl (fun _ => 0))), (b 31, .inl (cI, 1040, .inl (fun _ => 0))), (b 32, .inl (cI, 78, .inl (fun _ => 0))), (b 27, .inl (cI, 7, .inl (fun _ => 0)))] sz (fun (r : Int32) (u : (Nat → Int32)) => r = (-2)) (fun u : (Nat → Int32) => [(h0, oX10 b 0 0 0 0 0 0 0 0 (-1) 0 0 (-1) 0 0 0 0 0 0), (b 1, .inl (cI, 149, .inl (fun _ => 0))), (b 15, .inl (cZ, 80, .inl (fun _ => 0))), (b 16, .inl (cI, 7, .inl (fun _ => 0))), (b 21, .inl (cZ, 80, .inl (fun _ => 0))), (b 24, .inl (cI, 80, .inl (fun _ => 0))), (b 25, .inl (cI, 6, .inl (fun _ => 0))), (b 29, .inl (cI, 6, .inl (fun _ => 0))), (b 30, .inl (cZ, 1040, .inl (fun _ => 0))), (b 31, .inl (cI, 1040, .inl (fun _ => 0))), (b 32, .inl (cI, 78, .inl (fun _ => 0))), (b 27, .inl (cI, 7, .inl u))]) 0 0 := by
  refine CI.go (cc := cX10_law) (maxL := 3) (ret := (some .int)) (by decide) rfl (Nat.le_of_ble_eq_true rfl) ?_
  intro p e s m below meth c A ls Q hBd hret
  obtain ⟨hx, hb, hr, hml, hts, hown, hlk, hnm, hP, hK, hD, hA, hZ, hl⟩ := hBd
  have hown : s.vm.findClass RX10 = some m.cls := hown
  have hl : lv_has ls 3 [(0, .ref h0)] := hl
  have hS : va_S A s.heap s.heap [] := va_S.rf
  refine lv_aload_n hx hb dX10_law_0 rfl (lv_at hl 0 rfl) ?_
  refine k_i (wc := [(h0, oX10 b 0 0 0 0 0 0 0 0 (-1) 0 0 0 0 0 0 0 0 0), (b 1, .inl (cI, 149, .inl (fun _ => 0))), (b 15, .inl (cZ, 80, .inl (fun _ => 0))), (b 16, .inl (cI, 7, .inl (fun _ => 0))), (b 21, .inl (cZ, 80, .inl (fun _ => 0))), (b 24, .inl (cI, 80, .inl (fun _ => 0))), (b 25, .inl (cI, 6, .inl (fun _ => 0))), (b 29, .inl (cI, 6, .inl (fun _ => 0))), (b 30, .inl (cZ, 1040, .inl (fun _ => 0))), (b 31, .inl (cI, 1040, .inl (fun _ => 0))), (b 32, .inl (cI, 78, .inl (fun _ => 0))), (b 27, .inl (cI, 7, .inl (fun _ => 0)))]) (wr := []) hP hD hS hA [0, 1, 2, 3, 4, 5, 6, 7, 8, 9, 10, 11] [] rfl rfl rfl (by decide) (va_runV (As := []) (rest := []) ⟨hx, hb, hml, hown, hts⟩ (f_X10_asksColony l G cI cJ cZ cB cQ _ h0 b) (cwV 0 hts (gV w_1485 w_1487 wp_105 w_11 w_1488) rfl rfl rfl ⟨rfl, hd_X10_asksColony⟩ ⟨Nat.le_of_ble_eq_true rfl, Nat.le_of_ble_eq_true rfl⟩) (mV hK hZ hP hD [0, 1, 2, 3, 4, 5, 6, 7, 8, 9, 10, 11] rfl rfl [] 0 10 rfl rfl) rfl rfl hl.1 rfl (lv_room (Nat.le_of_ble_eq_true rfl)) dX10_law_1 ⟨Nat.le_of_ble_eq_true rfl, Nat.le_of_ble_eq_true rfl⟩) (fun r1 u2 H locs hw3 hP hD hS => ?_)
  obtain ⟨f04, rfl⟩ : ∃ z, z = u2 := ⟨_, rfl⟩
  try dsimp only at hw3
  have hP : va_P G vwCl [(h0, oX10 b 0 0 0 0 0 0 0 0 (-1) 0 0 (-1) 0 0 0 0 0 0), (b 1, .inl (cI, 149, .inl (fun _ => 0))), (b 15, .inl (cZ, 80, .inl (fun _ => 0))), (b 16, .inl (cI, 7, .inl (fun _ => 0))), (b 21, .inl (cZ, 80, .inl (fun _ => 0))), (b 24, .inl (cI, 80, .inl (fun _ => 0))), (b 25, .inl (cI, 6, .inl (fun _ => 0))), (b 29, .inl (cI, 6, .inl (fun _ => 0))), (b 30, .inl (cZ, 1040, .inl (fun _ => 0))), (b 31, .inl (cI, 1040, .inl (fun _ => 0))), (b 32, .inl (cI, 78, .inl (fun _ => 0))), (b 27, .inl (cI, 7, .inl f04))] H := hP
  have hD : va_D A [(h0, oX10 b 0 0 0 0 0 0 0 0 (-1) 0 0 (-1) 0 0 0 0 0 0), (b 1, .inl (cI, 149, .inl (fun _ => 0))), (b 15, .inl (cZ, 80, .inl (fun _ => 0))), (b 16, .inl (cI, 7, .inl (fun _ => 0))), (b 21, .inl (cZ, 80, .inl (fun _ => 0))), (b 24, .inl (cI, 80, .inl (fun _ => 0))), (b 25, .inl (cI, 6, .inl (fun _ => 0))), (b 29, .inl (cI, 6, .inl (fun _ => 0))), (b 30, .inl (cZ, 1040, .inl (fun _ => 0))), (b 31, .inl (cI, 1040, .inl (fun _ => 0))), (b 32, .inl (cI, 78, .inl (fun _ => 0))), (b 27, .inl (cI, 7, .inl f04))] := hD
  obtain rfl : r1 = 0 := hw3
  refine lv_if_ne (tgt := 10) hx hb dX10_law_4 (by decide) (fun c5 => absurd (by decide) c5) (fun c5 => ?_)
  refine lv_bipush (v := (-2)) hx hb dX10_law_7 (by decide) ?_
  exact hret _ _ _ _ (-2) f04 hP hD hS dX10_law_9 rfl
set_option maxHeartbeats 4000000 in
set_option maxRecDepth 100000 in
theorem f_X10_worth (l : Launch) (G : va_G) (cI cJ cZ cB cQ : ClassId) (sz : Nat) (h0 : Nat) (b : Nat → Nat) (p0 : Int32) : CI l yX10_worth (wl_ yX10_worth cX10_worth 2 (some .int)) ({ frames := 4, cells := 0, slots := 0, locals := 82 } : Room) G (TY cI cJ cZ cB cQ) [.ref h0, .int p0] [(h0, oX10 b 0 0 0 0 0 0 0 0 (-1) 0 0 0 0 0 0 0 0 0), (b 1, .inl (cI, 149, .inl (fun _ => 0))), (b 15, .inl (cZ, 80, .inl (fun _ => 0))), (b 16, .inl (cI, 7, .inl (fun _ => 0)))] sz (fun (r : Int32) (u : Unit) => r = (-2)) (fun _ : Unit => [(h0, oX10 b 0 0 0 0 0 0 0 0 (-1) 0 0 (-1) 0 0 0 0 0 0), (b 1, .inl (cI, 149, .inl (fun _ => 0))), (b 15, .inl (cZ, 80, .inl (fun _ => 0))), (b 16, .inl (cI, 7, .inl (fun _ => 0)))]) 0 0 := by
  refine CI.go (cc := cX10_worth) (maxL := 2) (ret := (some .int)) (by decide) rfl (Nat.le_of_ble_eq_true rfl) ?_
  intro p e s m below meth c A ls Q hBd hret
  obtain ⟨hx, hb, hr, hml, hts, hown, hlk, hnm, hP, hK, hD, hA, hZ, hl⟩ := hBd
  have hown : s.vm.findClass RX10 = some m.cls := hown
  have hl : lv_has ls 2 [(0, .ref h0), (1, .int p0)] := hl
  have hS : va_S A s.heap s.heap [] := va_S.rf
  refine lv_aload_n hx hb dX10_worth_0 rfl (lv_at hl 0 rfl) ?_
  refine k_v (wc := [(h0, oX10 b 0 0 0 0 0 0 0 0 (-1) 0 0 0 0 0 0 0 0 0), (b 1, .inl (cI, 149, .inl (fun _ => 0))), (b 15, .inl (cZ, 80, .inl (fun _ => 0))), (b 16, .inl (cI, 7, .inl (fun _ => 0)))]) (wr := []) hP hD hS hA [0, 1, 2, 3] [] rfl rfl rfl (by decide) (va_runV (As := []) (rest := []) ⟨hx, hb, hml, hown, hts⟩ (f_X10_beginSets l G cI cJ cZ cB cQ _ h0 b) (cwV 0 hts (gV w_1872 w_1874 wp_154 w_11 w_1875) rfl rfl rfl ⟨rfl, hd_X10_beginSets⟩ ⟨Nat.le_of_ble_eq_true rfl, Nat.le_of_ble_eq_true rfl⟩) (mV hK hZ hP hD [0, 1, 2, 3] rfl rfl [] 0 10 rfl rfl) rfl rfl hl.1 rfl (lv_room (Nat.le_of_ble_eq_true rfl)) dX10_worth_1 ⟨Nat.le_of_ble_eq_true rfl, Nat.le_of_ble_eq_true rfl⟩) (fun u2 H locs hw3 hP hD hS => ?_)
  have hP : va_P G vwCl [(h0, oX10 b 0 0 0 0 0 0 0 0 (-1) 0 0 (-1) 0 0 0 0 0 0), (b 1, .inl (cI, 149, .inl (fun _ => 0))), (b 15, .inl (cZ, 80, .inl (fun _ => 0))), (b 16, .inl (cI, 7, .inl (fun _ => 0)))] H := hP
  have hD : va_D A [(h0, oX10 b 0 0 0 0 0 0 0 0 (-1) 0 0 (-1) 0 0 0 0 0 0), (b 1, .inl (cI, 149, .inl (fun _ => 0))), (b 15, .inl (cZ, 80, .inl (fun _ => 0))), (b 16, .inl (cI, 7, .inl (fun _ => 0)))] := hD
  refine lv_aload_n hx hb dX10_worth_4 rfl (lv_at hl 0 rfl) ?_
  refine k_i (wc := [(h0, oX10 b 0 0 0 0 0 0 0 0 (-1) 0 0 (-1) 0 0 0 0 0 0), (b 1, .inl (cI, 149, .inl (fun _ => 0)))]) (wr := [(b 15, .inl (cZ, 80, .inl (fun _ => 0))), (b 16, .inl (cI, 7, .inl (fun _ => 0)))]) hP hD hS hA [0, 1] [2, 3] rfl rfl rfl (by decide) (va_runV (As := []) (rest := []) ⟨hx, hb, hml, hown, hts⟩ (f_X10_isColony l G cI cJ cZ cB cQ _ h0 b (-1)) (cwV 0 hts (gV w_1554 w_1556 wp_120 w_11 w_1557) rfl rfl rfl ⟨rfl, hd_X10_isColony⟩ ⟨Nat.le_of_ble_eq_true rfl, Nat.le_of_ble_eq_true rfl⟩) (mV hK hZ hP hD [0, 1] rfl rfl [] 0 10 rfl rfl) rfl rfl hl.1 rfl (lv_room (Nat.le_of_ble_eq_true rfl)) dX10_worth_5 ⟨Nat.le_of_ble_eq_true rfl, Nat.le_of_ble_eq_true rfl⟩) (fun r4 u5 H locs hw6 hP hD hS => ?_)
  try dsimp only at hw6
  have hP : va_P G vwCl [(b 15, .inl (cZ, 80, .inl (fun _ => 0))), (b 16, .inl (cI, 7, .inl (fun _ => 0))), (h0, oX10 b 0 0 0 0 0 0 0 0 (-1) 0 0 (-1) 0 0 0 0 0 0), (b 1, .inl (cI, 149, .inl (fun _ => 0)))] H := hP
  have hD : va_D A [(b 15, .inl (cZ, 80, .inl (fun _ => 0))), (b 16, .inl (cI, 7, .inl (fun _ => 0))), (h0, oX10 b 0 0 0 0 0 0 0 0 (-1) 0 0 (-1) 0 0 0 0 0 0), (b 1, .inl (cI, 149, .inl (fun _ => 0)))] := hD
  obtain rfl : r4 = 0 := hw6
  refine lv_if_eq (tgt := 33) hx hb dX10_worth_8 (by decide) (fun c7 => ?_) (fun c7 => absurd (by decide) c7)
  refine lv_bipush (v := (-2)) hx hb dX10_worth_33 (by decide) ?_
  exact hret _ _ _ _ (-2) () (hP.sub (ws' := [(h0, oX10 b 0 0 0 0 0 0 0 0 (-1) 0 0 (-1) 0 0 0 0 0 0), (b 1, .inl (cI, 149, .inl (fun _ => 0))), (b 15, .inl (cZ, 80, .inl (fun _ => 0))), (b 16, .inl (cI, 7, .inl (fun _ => 0)))]) [2, 3, 0, 1] rfl) (hD.sub (ws' := [(h0, oX10 b 0 0 0 0 0 0 0 0 (-1) 0 0 (-1) 0 0 0 0 0 0), (b 1, .inl (cI, 149, .inl (fun _ => 0))), (b 15, .inl (cZ, 80, .inl (fun _ => 0))), (b 16, .inl (cI, 7, .inl (fun _ => 0)))]) [2, 3, 0, 1] rfl rfl) hS dX10_worth_35 rfl
set_option maxHeartbeats 4000000 in
set_option maxRecDepth 100000 in
theorem f_X10_share (l : Launch) (G : va_G) (cI cJ cZ cB cQ : ClassId) (sz : Nat) (h0 : Nat) (b : Nat → Nat) (p0 : Int32) (p1 : Int32) : CI l yX10_share (wl_ yX10_share cX10_share 7 (some .int)) ({ frames := 4, cells := 0, slots := 0, locals := 82 } : Room) G (TY cI cJ cZ cB cQ) [.ref h0, .int p0, .int p1] [(h0, oX10 b 0 0 0 0 0 0 0 0 (-1) 0 0 0 0 0 0 0 0 0), (b 1, .inl (cI, 149, .inl (fun _ => 0))), (b 15, .inl (cZ, 80, .inl (fun _ => 0))), (b 16, .inl (cI, 7, .inl (fun _ => 0)))] sz (fun (r : Int32) (u : Unit) => r = (-1000000)) (fun _ : Unit => [(h0, oX10 b 0 0 0 0 0 0 0 0 (-1) 0 0 (-1) 0 0 0 0 0 0), (b 1, .inl (cI, 149, .inl (fun _ => 0))), (b 15, .inl (cZ, 80, .inl (fun _ => 0))), (b 16, .inl (cI, 7, .inl (fun _ => 0)))]) 0 0 := by
  refine CI.go (cc := cX10_share) (maxL := 7) (ret := (some .int)) (by decide) rfl (Nat.le_of_ble_eq_true rfl) ?_
  intro p e s m below meth c A ls Q hBd hret
  obtain ⟨hx, hb, hr, hml, hts, hown, hlk, hnm, hP, hK, hD, hA, hZ, hl⟩ := hBd
  have hown : s.vm.findClass RX10 = some m.cls := hown
  have hl : lv_has ls 7 [(0, .ref h0), (1, .int p0), (2, .int p1)] := hl
  have hS : va_S A s.heap s.heap [] := va_S.rf
  refine lv_aload_n hx hb dX10_share_0 rfl (lv_at hl 0 rfl) ?_
  refine k_v (wc := [(h0, oX10 b 0 0 0 0 0 0 0 0 (-1) 0 0 0 0 0 0 0 0 0), (b 1, .inl (cI, 149, .inl (fun _ => 0))), (b 15, .inl (cZ, 80, .inl (fun _ => 0))), (b 16, .inl (cI, 7, .inl (fun _ => 0)))]) (wr := []) hP hD hS hA [0, 1, 2, 3] [] rfl rfl rfl (by decide) (va_runV (As := []) (rest := []) ⟨hx, hb, hml, hown, hts⟩ (f_X10_beginSets l G cI cJ cZ cB cQ _ h0 b) (cwV 0 hts (gV w_1872 w_1874 wp_154 w_11 w_1875) rfl rfl rfl ⟨rfl, hd_X10_beginSets⟩ ⟨Nat.le_of_ble_eq_true rfl, Nat.le_of_ble_eq_true rfl⟩) (mV hK hZ hP hD [0, 1, 2, 3] rfl rfl [] 0 10 rfl rfl) rfl rfl hl.1 rfl (lv_room (Nat.le_of_ble_eq_true rfl)) dX10_share_1 ⟨Nat.le_of_ble_eq_true rfl, Nat.le_of_ble_eq_true rfl⟩) (fun u2 H locs hw3 hP hD hS => ?_)
  have hP : va_P G vwCl [(h0, oX10 b 0 0 0 0 0 0 0 0 (-1) 0 0 (-1) 0 0 0 0 0 0), (b 1, .inl (cI, 149, .inl (fun _ => 0))), (b 15, .inl (cZ, 80, .inl (fun _ => 0))), (b 16, .inl (cI, 7, .inl (fun _ => 0)))] H := hP
  have hD : va_D A [(h0, oX10 b 0 0 0 0 0 0 0 0 (-1) 0 0 (-1) 0 0 0 0 0 0), (b 1, .inl (cI, 149, .inl (fun _ => 0))), (b 15, .inl (cZ, 80, .inl (fun _ => 0))), (b 16, .inl (cI, 7, .inl (fun _ => 0)))] := hD
  refine lv_aload_n hx hb dX10_share_4 rfl (lv_at hl 0 rfl) ?_
  refine lv_iload_n hx hb dX10_share_5 rfl (lv_at hl 1 rfl) ?_
  obtain ⟨v4, ev4⟩ : ∃ y : Int64, p0.toInt64 = y := ⟨_, rfl⟩
  have tv4 : v4.toInt = p0.toInt := ti_wide rfl ev4
  refine lv_i2l (v := v4) hx hb dX10_share_6 ev4 ?_
  refine k_i (wc := [(h0, oX10 b 0 0 0 0 0 0 0 0 (-1) 0 0 (-1) 0 0 0 0 0 0), (b 1, .inl (cI, 149, .inl (fun _ => 0)))]) (wr := [(b 15, .inl (cZ, 80, .inl (fun _ => 0))), (b 16, .inl (cI, 7, .inl (fun _ => 0)))]) hP hD hS hA [0, 1] [2, 3] rfl rfl rfl (by decide) (va_runV (As := [.long v4]) (rest := []) ⟨hx, hb, hml, hown, hts⟩ (f_X10_isWidow l G cI cJ cZ cB cQ _ h0 b (-1) v4) (cwV 1 hts (gV w_1460 w_1462 wp_101 w_11 w_1463) rfl rfl rfl ⟨rfl, hd_X10_isWidow⟩ ⟨Nat.le_of_ble_eq_true rfl, Nat.le_of_ble_eq_true rfl⟩) (mV hK hZ hP hD [0, 1] rfl rfl [.long v4] 0 10 rfl rfl) rfl rfl hl.1 rfl (lv_room (Nat.le_of_ble_eq_true rfl)) dX10_share_7 ⟨Nat.le_of_ble_eq_true rfl, Nat.le_of_ble_eq_true rfl⟩) (fun r5 u6 H locs hw7 hP hD hS => ?_)
  try dsimp only at hw7
  have hP : va_P G vwCl [(b 15, .inl (cZ, 80, .inl (fun _ => 0))), (b 16, .inl (cI, 7, .inl (fun _ => 0))), (h0, oX10 b 0 0 0 0 0 0 0 0 (-1) 0 0 (-1) 0 0 0 0 0 0), (b 1, .inl (cI, 149, .inl (fun _ => 0)))] H := hP
  have hD : va_D A [(b 15, .inl (cZ, 80, .inl (fun _ => 0))), (b 16, .inl (cI, 7, .inl (fun _ => 0))), (h0, oX10 b 0 0 0 0 0 0 0 0 (-1) 0 0 (-1) 0 0 0 0 0 0), (b 1, .inl (cI, 149, .inl (fun _ => 0)))] := hD
  obtain rfl : r5 = 0 := hw7
  refine lv_if_eq (tgt := 23) hx hb dX10_share_10 (by decide) (fun c8 => ?_) (fun c8 => absurd (by decide) c8)
  refine lv_ldcw (v := (-1000000)) hx hb hown (hts _ w_1884) dX10_share_23 ?_
  exact hret _ _ _ _ (-1000000) () (hP.sub (ws' := [(h0, oX10 b 0 0 0 0 0 0 0 0 (-1) 0 0 (-1) 0 0 0 0 0 0), (b 1, .inl (cI, 149, .inl (fun _ => 0))), (b 15, .inl (cZ, 80, .inl (fun _ => 0))), (b 16, .inl (cI, 7, .inl (fun _ => 0)))]) [2, 3, 0, 1] rfl) (hD.sub (ws' := [(h0, oX10 b 0 0 0 0 0 0 0 0 (-1) 0 0 (-1) 0 0 0 0 0 0), (b 1, .inl (cI, 149, .inl (fun _ => 0))), (b 15, .inl (cZ, 80, .inl (fun _ => 0))), (b 16, .inl (cI, 7, .inl (fun _ => 0)))]) [2, 3, 0, 1] rfl rfl) hS dX10_share_26 rfl
set_option maxHeartbeats 4000000 in
set_option maxRecDepth 100000 in
theorem f_X10_rests (l : Launch) (G : va_G) (cI cJ cZ cB cQ : ClassId) (sz : Nat) (h0 : Nat) (b : Nat → Nat) (p0 : Int32) (p1 : Int32) : CI l yX10_rests (wl_ yX10_rests cX10_rests 8 (some .int)) ({ frames := 3, cells := 0, slots := 0, locals := 69 } : Room) G (TY cI cJ cZ cB cQ) [.ref h0, .int p0, .int p1] [(h0, oX10 b 0 0 0 0 0 0 0 0 (-1) 0 0 0 0 0 0 0 0 0), (b 1, .inl (cI, 149, .inl (fun _ => 0)))] sz (fun (r : Int32) (u : Unit) => r = (-2)) (fun _ : Unit => [(h0, oX10 b 0 0 0 0 0 0 0 0 (-1) 0 0 0 0 0 0 0 0 0), (b 1, .inl (cI, 149, .inl (fun _ => 0)))]) 0 0 := by
  refine CI.go (cc := cX10_rests) (maxL := 8) (ret := (some .int)) (by decide) rfl (Nat.le_of_ble_eq_true rfl) ?_
  intro p e s m below meth c A ls Q hBd hret
  obtain ⟨hx, hb, hr, hml, hts, hown, hlk, hnm, hP, hK, hD, hA, hZ, hl⟩ := hBd
  have hown : s.vm.findClass RX10 = some m.cls := hown
  have hl : lv_has ls 8 [(0, .ref h0), (1, .int p0), (2, .int p1)] := hl
  have hS : va_S A s.heap s.heap [] := va_S.rf
  refine lv_aload_n hx hb dX10_rests_0 rfl (lv_at hl 0 rfl) ?_
  refine lv_iload_n hx hb dX10_rests_1 rfl (lv_at hl 1 rfl) ?_
  refine lv_iload_n hx hb dX10_rests_2 rfl (lv_at hl 2 rfl) ?_
  refine k_i (wc := [(h0, oX10 b 0 0 0 0 0 0 0 0 (-1) 0 0 0 0 0 0 0 0 0), (b 1, .inl (cI, 149, .inl (fun _ => 0)))]) (wr := []) hP hD hS hA [0, 1] [] rfl rfl rfl (by decide) (va_runV (As := [.int p0, .int p1]) (rest := []) ⟨hx, hb, hml, hown, hts⟩ (f_X10_areTwo l G cI cJ cZ cB cQ _ h0 b 0 p0 p1) (cwV 2 hts (gV w_1899 w_1901 wp_156 w_11 w_1902) rfl rfl rfl ⟨rfl, hd_X10_areTwo⟩ ⟨Nat.le_of_ble_eq_true rfl, Nat.le_of_ble_eq_true rfl⟩) (mV hK hZ hP hD [0, 1] rfl rfl [.int p0, .int p1] 0 10 rfl rfl) rfl rfl hl.1 rfl (lv_room (Nat.le_of_ble_eq_true rfl)) dX10_rests_3 ⟨Nat.le_of_ble_eq_true rfl, Nat.le_of_ble_eq_true rfl⟩) (fun r1 u2 H locs hw3 hP hD hS => ?_)
  try dsimp only at hw3
  have hP : va_P G vwCl [(h0, oX10 b 0 0 0 0 0 0 0 0 (-1) 0 0 0 0 0 0 0 0 0), (b 1, .inl (cI, 149, .inl (fun _ => 0)))] H := hP
  have hD : va_D A [(h0, oX10 b 0 0 0 0 0 0 0 0 (-1) 0 0 0 0 0 0 0 0 0), (b 1, .inl (cI, 149, .inl (fun _ => 0)))] := hD
  obtain rfl : r1 = 0 := hw3
  refine lv_if_ne (tgt := 12) hx hb dX10_rests_6 (by decide) (fun c4 => absurd (by decide) c4) (fun c4 => ?_)
  refine lv_bipush (v := (-2)) hx hb dX10_rests_9 (by decide) ?_
  exact hret _ _ _ _ (-2) () hP hD hS dX10_rests_11 rfl
set_option maxHeartbeats 4000000 in
set_option maxRecDepth 100000 in
theorem f_X10_gets (l : Launch) (G : va_G) (cI cJ cZ cB cQ : ClassId) (sz : Nat) (h0 : Nat) (b : Nat → Nat) (p0 : Int32) (p1 : Int32) (p2 : Int32) (p3 : Int32) : CI l yX10_gets (wl_ yX10_gets cX10_gets 5 (some .int)) ({ frames := 3, cells := 0, slots := 0, locals := 69 } : Room) G (TY cI cJ cZ cB cQ) [.ref h0, .int p0, .int p1, .int p2, .int p3] [(h0, oX10 b 0 0 0 0 0 0 0 0 (-1) 0 0 0 0 0 0 0 0 0), (b 1, .inl (cI, 149, .inl (fun _ => 0)))] sz (fun (r : Int32) (u : Unit) => r = (-1000)) (fun _ : Unit => [(h0, oX10 b 0 0 0 0 0 0 0 0 (-1) 0 0 0 0 0 0 0 0 0), (b 1, .inl (cI, 149, .inl (fun _ => 0)))]) 0 0 := by
  refine CI.go (cc := cX10_gets) (maxL := 5) (ret := (some .int)) (by decide) rfl (Nat.le_of_ble_eq_true rfl) ?_
  intro p e s m below meth c A ls Q hBd hret
  obtain ⟨hx, hb, hr, hml, hts, hown, hlk, hnm, hP, hK, hD, hA, hZ, hl⟩ := hBd
  have hown : s.vm.findClass RX10 = some m.cls := hown
  have hl : lv_has ls 5 [(0, .ref h0), (1, .int p0), (2, .int p1), (3, .int p2), (4, .int p3)] := hl
  have hS : va_S A s.heap s.heap [] := va_S.rf
  refine lv_aload_n hx hb dX10_gets_0 rfl (lv_at hl 0 rfl) ?_
  refine lv_iload_n hx hb dX10_gets_1 rfl (lv_at hl 1 rfl) ?_
  refine lv_iload_n hx hb dX10_gets_2 rfl (lv_at hl 2 rfl) ?_
  refine k_i (wc := [(h0, oX10 b 0 0 0 0 0 0 0 0 (-1) 0 0 0 0 0 0 0 0 0), (b 1, .inl (cI, 149, .inl (fun _ => 0)))]) (wr := []) hP hD hS hA [0, 1] [] rfl rfl rfl (by decide) (va_runV (As := [.int p0, .int p1]) (rest := []) ⟨hx, hb, hml, hown, hts⟩ (f_X10_areTwo l G cI cJ cZ cB cQ _ h0 b 0 p0 p1) (cwV 2 hts (gV w_1899 w_1901 wp_156 w_11 w_1902) rfl rfl rfl ⟨rfl, hd_X10_areTwo⟩ ⟨Nat.le_of_ble_eq_true rfl, Nat.le_of_ble_eq_true rfl⟩) (mV hK hZ hP hD [0, 1] rfl rfl [.int p0, .int p1] 0 10 rfl rfl) rfl rfl hl.1 rfl (lv_room (Nat.le_of_ble_eq_true rfl)) dX10_gets_3 ⟨Nat.le_of_ble_eq_true rfl, Nat.le_of_ble_eq_true rfl⟩) (fun r1 u2 H locs hw3 hP hD hS => ?_)
  try dsimp only at hw3
  have hP : va_P G vwCl [(h0, oX10 b 0 0 0 0 0 0 0 0 (-1) 0 0 0 0 0 0 0 0 0), (b 1, .inl (cI, 149, .inl (fun _ => 0)))] H := hP
  have hD : va_D A [(h0, oX10 b 0 0 0 0 0 0 0 0 (-1) 0 0 0 0 0 0 0 0 0), (b 1, .inl (cI, 149, .inl (fun _ => 0)))] := hD
  obtain rfl : r1 = 0 := hw3
  refine lv_if_eq (tgt := 43) hx hb dX10_gets_6 (by decide) (fun c4 => ?_) (fun c4 => absurd (by decide) c4)
  refine lv_sipush (v := (-1000)) hx hb dX10_gets_43 (by decide) ?_
  exact hret _ _ _ _ (-1000) () hP hD hS dX10_gets_46 rfl
set_option maxHeartbeats 4000000 in
set_option maxRecDepth 100000 in
theorem f_X10_chance (l : Launch) (G : va_G) (cI cJ cZ cB cQ : ClassId) (sz : Nat) (h0 : Nat) (b : Nat → Nat) (p0 : Int32) (p1 : Int32) : CL l yX10_chance (wl_ yX10_chance cX10_chance 3 (some .long)) ({ frames := 2, cells := 0, slots := 0, locals := 42 } : Room) G (TY cI cJ cZ cB cQ) [.ref h0, .int p0, .int p1] [(h0, oX10 b 0 0 0 0 0 0 0 0 (-1) 0 0 0 0 0 0 0 0 0), (b 1, .inl (cI, 149, .inl (fun _ => 0)))] sz (fun (r : Int64) (u : Unit) => r = (-2)) (fun _ : Unit => [(h0, oX10 b 0 0 0 0 0 0 0 0 (-1) 0 0 0 0 0 0 0 0 0), (b 1, .inl (cI, 149, .inl (fun _ => 0)))]) 0 0 := by
  refine CL.go (cc := cX10_chance) (maxL := 3) (ret := (some .long)) (by decide) rfl (Nat.le_of_ble_eq_true rfl) ?_
  intro p e s m below meth c A ls Q hBd hret
  obtain ⟨hx, hb, hr, hml, hts, hown, hlk, hnm, hP, hK, hD, hA, hZ, hl⟩ := hBd
  have hown : s.vm.findClass RX10 = some m.cls := hown
  have hl : lv_has ls 3 [(0, .ref h0), (1, .int p0), (2, .int p1)] := hl
  have hS : va_S A s.heap s.heap [] := va_S.rf
  refine lv_aload_n hx hb dX10_chance_0 rfl (lv_at hl 0 rfl) ?_
  refine lv_iload_n hx hb dX10_chance_1 rfl (lv_at hl 1 rfl) ?_
  obtain ⟨v1, ev1⟩ : ∃ y : Int64, p0.toInt64 = y := ⟨_, rfl⟩
  have tv1 : v1.toInt = p0.toInt := ti_wide rfl ev1
  refine lv_i2l (v := v1) hx hb dX10_chance_2 ev1 ?_
  refine k_i (wc := [(h0, oX10 b 0 0 0 0 0 0 0 0 (-1) 0 0 0 0 0 0 0 0 0), (b 1, .inl (cI, 149, .inl (fun _ => 0)))]) (wr := []) hP hD hS hA [0, 1] [] rfl rfl rfl (by decide) (va_runV (As := [.long v1]) (rest := []) ⟨hx, hb, hml, hown, hts⟩ (f_X10_isCell l G cI cJ cZ cB cQ _ h0 b 0 v1) (cwV 1 hts (gV w_1550 w_1552 wp_119 w_11 w_1553) rfl rfl rfl ⟨rfl, hd_X10_isCell⟩ ⟨Nat.le_of_ble_eq_true rfl, Nat.le_of_ble_eq_true rfl⟩) (mV hK hZ hP hD [0, 1] rfl rfl [.long v1] 0 10 rfl rfl) rfl rfl hl.1 rfl (lv_room (Nat.le_of_ble_eq_true rfl)) dX10_chance_3 ⟨Nat.le_of_ble_eq_true rfl, Nat.le_of_ble_eq_true rfl⟩) (fun r2 u3 H locs hw4 hP hD hS => ?_)
  try dsimp only at hw4
  have hP : va_P G vwCl [(h0, oX10 b 0 0 0 0 0 0 0 0 (-1) 0 0 0 0 0 0 0 0 0), (b 1, .inl (cI, 149, .inl (fun _ => 0)))] H := hP
  have hD : va_D A [(h0, oX10 b 0 0 0 0 0 0 0 0 (-1) 0 0 0 0 0 0 0 0 0), (b 1, .inl (cI, 149, .inl (fun _ => 0)))] := hD
  obtain rfl : r2 = 0 := hw4
  refine lv_if_eq (tgt := 19) hx hb dX10_chance_6 (by decide) (fun c5 => ?_) (fun c5 => absurd (by decide) c5)
  refine lv_ldc2 (v := (-2)) hx hb hown (hts _ w_1915) dX10_chance_19 ?_
  exact hret _ _ _ _ (-2) () hP hD hS dX10_chance_22 rfl
set_option maxHeartbeats 4000000 in
set_option maxRecDepth 100000 in
theorem f_X10_mean (l : Launch) (G : va_G) (cI cJ cZ cB cQ : ClassId) (sz : Nat) (h0 : Nat) (b : Nat → Nat) (p0 : Int32) : CL l yX10_mean (wl_ yX10_mean cX10_mean 2 (some .long)) ({ frames := 1, cells := 0, slots := 0, locals := 20 } : Room) G (TY cI cJ cZ cB cQ) [.ref h0, .int p0] [(h0, oX10 b 0 0 0 0 0 0 0 0 (-1) 0 0 0 0 0 0 0 0 0), (b 1, .inl (cI, 149, .inl (fun _ => 0)))] sz (fun (r : Int64) (u : Unit) => r = (-2)) (fun _ : Unit => [(h0, oX10 b 0 0 0 0 0 0 0 0 (-1) 0 0 0 0 0 0 0 0 0), (b 1, .inl (cI, 149, .inl (fun _ => 0)))]) 0 0 := by
  refine CL.go (cc := cX10_mean) (maxL := 2) (ret := (some .long)) (by decide) rfl (Nat.le_of_ble_eq_true rfl) ?_
  intro p e s m below meth c A ls Q hBd hret
  obtain ⟨hx, hb, hr, hml, hts, hown, hlk, hnm, hP, hK, hD, hA, hZ, hl⟩ := hBd
  have hown : s.vm.findClass RX10 = some m.cls := hown
  have hl : lv_has ls 2 [(0, .ref h0), (1, .int p0)] := hl
  have hS : va_S A s.heap s.heap [] := va_S.rf
  refine lv_aload_n hx hb dX10_mean_0 rfl (lv_at hl 0 rfl) ?_
  refine k_i (wc := [(h0, oX10 b 0 0 0 0 0 0 0 0 (-1) 0 0 0 0 0 0 0 0 0), (b 1, .inl (cI, 149, .inl (fun _ => 0)))]) (wr := []) hP hD hS hA [0, 1] [] rfl rfl rfl (by decide) (va_runV (As := []) (rest := []) ⟨hx, hb, hml, hown, hts⟩ (f_X10_isColony l G cI cJ cZ cB cQ _ h0 b 0) (cwV 0 hts (gV w_1554 w_1556 wp_120 w_11 w_1557) rfl rfl rfl ⟨rfl, hd_X10_isColony⟩ ⟨Nat.le_of_ble_eq_true rfl, Nat.le_of_ble_eq_true rfl⟩) (mV hK hZ hP hD [0, 1] rfl rfl [] 0 10 rfl rfl) rfl rfl hl.1 rfl (lv_room (Nat.le_of_ble_eq_true rfl)) dX10_mean_1 ⟨Nat.le_of_ble_eq_true rfl, Nat.le_of_ble_eq_true rfl⟩) (fun r1 u2 H locs hw3 hP hD hS => ?_)
  try dsimp only at hw3
  have hP : va_P G vwCl [(h0, oX10 b 0 0 0 0 0 0 0 0 (-1) 0 0 0 0 0 0 0 0 0), (b 1, .inl (cI, 149, .inl (fun _ => 0)))] H := hP
  have hD : va_D A [(h0, oX10 b 0 0 0 0 0 0 0 0 (-1) 0 0 0 0 0 0 0 0 0), (b 1, .inl (cI, 149, .inl (fun _ => 0)))] := hD
  obtain rfl : r1 = 0 := hw3
  refine lv_if_eq (tgt := 17) hx hb dX10_mean_4 (by decide) (fun c4 => ?_) (fun c4 => absurd (by decide) c4)
  refine lv_ldc2 (v := (-2)) hx hb hown (hts _ w_1915) dX10_mean_17 ?_
  exact hret _ _ _ _ (-2) () hP hD hS dX10_mean_20 rfl
set_option maxHeartbeats 4000000 in
set_option maxRecDepth 100000 in
theorem f_X10_bridge (l : Launch) (G : va_G) (cI cJ cZ cB cQ : ClassId) (sz : Nat) (h0 : Nat) (b : Nat → Nat) (p0 : Int32) : CI l yX10_bridge (wl_ yX10_bridge cX10_bridge 2 (some .int)) ({ frames := 2, cells := 0, slots := 0, locals := 42 } : Room) G (TY cI cJ cZ cB cQ) [.ref h0, .int p0] [(h0, oX10 b 0 0 0 0 0 0 0 0 (-1) 0 0 0 0 0 0 0 0 0), (b 1, .inl (cI, 149, .inl (fun _ => 0)))] sz (fun (r : Int32) (u : Unit) => r = (-2)) (fun _ : Unit => [(h0, oX10 b 0 0 0 0 0 0 0 0 (-1) 0 0 0 0 0 0 0 0 0), (b 1, .inl (cI, 149, .inl (fun _ => 0)))]) 0 0 := by
  refine CI.go (cc := cX10_bridge) (maxL := 2) (ret := (some .int)) (by decide) rfl (Nat.le_of_ble_eq_true rfl) ?_
  intro p e s m below meth c A ls Q hBd hret
  obtain ⟨hx, hb, hr, hml, hts, hown, hlk, hnm, hP, hK, hD, hA, hZ, hl⟩ := hBd
  have hown : s.vm.findClass RX10 = some m.cls := hown
  have hl : lv_has ls 2 [(0, .ref h0), (1, .int p0)] := hl
  have hS : va_S A s.heap s.heap [] := va_S.rf
  refine lv_aload_n hx hb dX10_bridge_0 rfl (lv_at hl 0 rfl) ?_
  refine lv_iload_n hx hb dX10_bridge_1 rfl (lv_at hl 1 rfl) ?_
  obtain ⟨v1, ev1⟩ : ∃ y : Int64, p0.toInt64 = y := ⟨_, rfl⟩
  have tv1 : v1.toInt = p0.toInt := ti_wide rfl ev1
  refine lv_i2l (v := v1) hx hb dX10_bridge_2 ev1 ?_
  refine k_i (wc := [(h0, oX10 b 0 0 0 0 0 0 0 0 (-1) 0 0 0 0 0 0 0 0 0), (b 1, .inl (cI, 149, .inl (fun _ => 0)))]) (wr := []) hP hD hS hA [0, 1] [] rfl rfl rfl (by decide) (va_runV (As := [.long v1]) (rest := []) ⟨hx, hb, hml, hown, hts⟩ (f_X10_isCell l G cI cJ cZ cB cQ _ h0 b 0 v1) (cwV 1 hts (gV w_1550 w_1552 wp_119 w_11 w_1553) rfl rfl rfl ⟨rfl, hd_X10_isCell⟩ ⟨Nat.le_of_ble_eq_true rfl, Nat.le_of_ble_eq_true rfl⟩) (mV hK hZ hP hD [0, 1] rfl rfl [.long v1] 0 10 rfl rfl) rfl rfl hl.1 rfl (lv_room (Nat.le_of_ble_eq_true rfl)) dX10_bridge_3 ⟨Nat.le_of_ble_eq_true rfl, Nat.le_of_ble_eq_true rfl⟩) (fun r2 u3 H locs hw4 hP hD hS => ?_)
  try dsimp only at hw4
  have hP : va_P G vwCl [(h0, oX10 b 0 0 0 0 0 0 0 0 (-1) 0 0 0 0 0 0 0 0 0), (b 1, .inl (cI, 149, .inl (fun _ => 0)))] H := hP
  have hD : va_D A [(h0, oX10 b 0 0 0 0 0 0 0 0 (-1) 0 0 0 0 0 0 0 0 0), (b 1, .inl (cI, 149, .inl (fun _ => 0)))] := hD
  obtain rfl : r2 = 0 := hw4
  refine lv_if_eq (tgt := 17) hx hb dX10_bridge_6 (by decide) (fun c5 => ?_) (fun c5 => absurd (by decide) c5)
  refine lv_bipush (v := (-2)) hx hb dX10_bridge_17 (by decide) ?_
  exact hret _ _ _ _ (-2) () hP hD hS dX10_bridge_19 rfl
set_option maxHeartbeats 4000000 in
set_option maxRecDepth 100000 in
theorem f_X10_keeps (l : Launch) (G : va_G) (cI cJ cZ cB cQ : ClassId) (sz : Nat) (h0 : Nat) (b : Nat → Nat) (p0 : Int32) : CI l yX10_keeps (wl_ yX10_keeps cX10_keeps 2 (some .int)) ({ frames := 2, cells := 0, slots := 0, locals := 47 } : Room) G (TY cI cJ cZ cB cQ) [.ref h0, .int p0] [(h0, oX10 b 0 0 0 0 0 0 0 0 (-1) 0 0 0 0 0 0 0 0 0), (b 1, .inl (cI, 149, .inl (fun _ => 0)))] sz (fun (r : Int32) (u : Unit) => r = (-2)) (fun _ : Unit => [(h0, oX10 b 0 0 0 0 0 0 0 0 (-1) 0 0 0 0 0 0 0 0 0), (b 1, .inl (cI, 149, .inl (fun _ => 0)))]) 0 0 := by
  refine CI.go (cc := cX10_keeps) (maxL := 2) (ret := (some .int)) (by decide) rfl (Nat.le_of_ble_eq_true rfl) ?_
  intro p e s m below meth c A ls Q hBd hret
  obtain ⟨hx, hb, hr, hml, hts, hown, hlk, hnm, hP, hK, hD, hA, hZ, hl⟩ := hBd
  have hown : s.vm.findClass RX10 = some m.cls := hown
  have hl : lv_has ls 2 [(0, .ref h0), (1, .int p0)] := hl
  have hS : va_S A s.heap s.heap [] := va_S.rf
  refine lv_aload_n hx hb dX10_keeps_0 rfl (lv_at hl 0 rfl) ?_
  refine lv_iload_n hx hb dX10_keeps_1 rfl (lv_at hl 1 rfl) ?_
  obtain ⟨v1, ev1⟩ : ∃ y : Int64, p0.toInt64 = y := ⟨_, rfl⟩
  have tv1 : v1.toInt = p0.toInt := ti_wide rfl ev1
  refine lv_i2l (v := v1) hx hb dX10_keeps_2 ev1 ?_
  refine k_i (wc := [(h0, oX10 b 0 0 0 0 0 0 0 0 (-1) 0 0 0 0 0 0 0 0 0), (b 1, .inl (cI, 149, .inl (fun _ => 0)))]) (wr := []) hP hD hS hA [0, 1] [] rfl rfl rfl (by decide) (va_runV (As := [.long v1]) (rest := []) ⟨hx, hb, hml, hown, hts⟩ (f_X10_isWidow l G cI cJ cZ cB cQ _ h0 b 0 v1) (cwV 1 hts (gV w_1460 w_1462 wp_101 w_11 w_1463) rfl rfl rfl ⟨rfl, hd_X10_isWidow⟩ ⟨Nat.le_of_ble_eq_true rfl, Nat.le_of_ble_eq_true rfl⟩) (mV hK hZ hP hD [0, 1] rfl rfl [.long v1] 0 10 rfl rfl) rfl rfl hl.1 rfl (lv_room (Nat.le_of_ble_eq_true rfl)) dX10_keeps_3 ⟨Nat.le_of_ble_eq_true rfl, Nat.le_of_ble_eq_true rfl⟩) (fun r2 u3 H locs hw4 hP hD hS => ?_)
  try dsimp only at hw4
  have hP : va_P G vwCl [(h0, oX10 b 0 0 0 0 0 0 0 0 (-1) 0 0 0 0 0 0 0 0 0), (b 1, .inl (cI, 149, .inl (fun _ => 0)))] H := hP
  have hD : va_D A [(h0, oX10 b 0 0 0 0 0 0 0 0 (-1) 0 0 0 0 0 0 0 0 0), (b 1, .inl (cI, 149, .inl (fun _ => 0)))] := hD
  obtain rfl : r2 = 0 := hw4
  refine lv_if_eq (tgt := 21) hx hb dX10_keeps_6 (by decide) (fun c5 => ?_) (fun c5 => absurd (by decide) c5)
  refine lv_bipush (v := (-2)) hx hb dX10_keeps_21 (by decide) ?_
  exact hret _ _ _ _ (-2) () hP hD hS dX10_keeps_23 rfl
set_option maxHeartbeats 4000000 in
set_option maxRecDepth 100000 in
theorem f_X10_undo (l : Launch) (G : va_G) (cI cJ cZ cB cQ : ClassId) (sz : Nat) (h0 : Nat) (b : Nat → Nat) : CI l yX10_undo (wl_ yX10_undo cX10_undo 1 (some .int)) ({ frames := 1, cells := 0, slots := 0, locals := 20 } : Room) G (TY cI cJ cZ cB cQ) [.ref h0] [(h0, oX10 b 0 0 0 0 0 0 0 0 (-1) 0 0 0 0 0 0 0 0 0), (b 1, .inl (cI, 149, .inl (fun _ => 0)))] sz (fun (r : Int32) (u : Unit) => r = (-2)) (fun _ : Unit => [(h0, oX10 b 0 0 0 0 0 0 0 0 (-1) 0 0 0 0 0 0 0 0 0), (b 1, .inl (cI, 149, .inl (fun _ => 0)))]) 0 0 := by
  refine CI.go (cc := cX10_undo) (maxL := 1) (ret := (some .int)) (by decide) rfl (Nat.le_of_ble_eq_true rfl) ?_
  intro p e s m below meth c A ls Q hBd hret
  obtain ⟨hx, hb, hr, hml, hts, hown, hlk, hnm, hP, hK, hD, hA, hZ, hl⟩ := hBd
  have hown : s.vm.findClass RX10 = some m.cls := hown
  have hl : lv_has ls 1 [(0, .ref h0)] := hl
  have hS : va_S A s.heap s.heap [] := va_S.rf
  refine lv_aload_n hx hb dX10_undo_0 rfl (lv_at hl 0 rfl) ?_
  refine k_i (wc := [(h0, oX10 b 0 0 0 0 0 0 0 0 (-1) 0 0 0 0 0 0 0 0 0), (b 1, .inl (cI, 149, .inl (fun _ => 0)))]) (wr := []) hP hD hS hA [0, 1] [] rfl rfl rfl (by decide) (va_runV (As := []) (rest := []) ⟨hx, hb, hml, hown, hts⟩ (f_X10_isColony l G cI cJ cZ cB cQ _ h0 b 0) (cwV 0 hts (gV w_1554 w_1556 wp_120 w_11 w_1557) rfl rfl rfl ⟨rfl, hd_X10_isColony⟩ ⟨Nat.le_of_ble_eq_true rfl, Nat.le_of_ble_eq_true rfl⟩) (mV hK hZ hP hD [0, 1] rfl rfl [] 0 10 rfl rfl) rfl rfl hl.1 rfl (lv_room (Nat.le_of_ble_eq_true rfl)) dX10_undo_1 ⟨Nat.le_of_ble_eq_true rfl, Nat.le_of_ble_eq_true rfl⟩) (fun r1 u2 H locs hw3 hP hD hS => ?_)
  try dsimp only at hw3
  have hP : va_P G vwCl [(h0, oX10 b 0 0 0 0 0 0 0 0 (-1) 0 0 0 0 0 0 0 0 0), (b 1, .inl (cI, 149, .inl (fun _ => 0)))] H := hP
  have hD : va_D A [(h0, oX10 b 0 0 0 0 0 0 0 0 (-1) 0 0 0 0 0 0 0 0 0), (b 1, .inl (cI, 149, .inl (fun _ => 0)))] := hD
  obtain rfl : r1 = 0 := hw3
  refine lv_if_ne (tgt := 10) hx hb dX10_undo_4 (by decide) (fun c4 => absurd (by decide) c4) (fun c4 => ?_)
  refine lv_bipush (v := (-2)) hx hb dX10_undo_7 (by decide) ?_
  exact hret _ _ _ _ (-2) () hP hD hS dX10_undo_9 rfl
set_option maxHeartbeats 4000000 in
set_option maxRecDepth 100000 in
theorem f_X10_anew (l : Launch) (G : va_G) (cI cJ cZ cB cQ : ClassId) (sz : Nat) (h0 : Nat) (b : Nat → Nat) : CI l yX10_anew (wl_ yX10_anew cX10_anew 2 (some .int)) ({ frames := 1, cells := 0, slots := 0, locals := 20 } : Room) G (TY cI cJ cZ cB cQ) [.ref h0] [(h0, oX10 b 0 0 0 0 0 0 0 0 (-1) 0 0 0 0 0 0 0 0 0), (b 1, .inl (cI, 149, .inl (fun _ => 0)))] sz (fun (r : Int32) (u : Unit) => r = (-2)) (fun _ : Unit => [(h0, oX10 b 0 0 0 0 0 0 0 0 (-1) 0 0 0 0 0 0 0 0 0), (b 1, .inl (cI, 149, .inl (fun _ => 0)))]) 0 0 := by
  refine CI.go (cc := cX10_anew) (maxL := 2) (ret := (some .int)) (by decide) rfl (Nat.le_of_ble_eq_true rfl) ?_
  intro p e s m below meth c A ls Q hBd hret
  obtain ⟨hx, hb, hr, hml, hts, hown, hlk, hnm, hP, hK, hD, hA, hZ, hl⟩ := hBd
  have hown : s.vm.findClass RX10 = some m.cls := hown
  have hl : lv_has ls 2 [(0, .ref h0)] := hl
  have hS : va_S A s.heap s.heap [] := va_S.rf
  refine lv_aload_n hx hb dX10_anew_0 rfl (lv_at hl 0 rfl) ?_
  refine k_i (wc := [(h0, oX10 b 0 0 0 0 0 0 0 0 (-1) 0 0 0 0 0 0 0 0 0), (b 1, .inl (cI, 149, .inl (fun _ => 0)))]) (wr := []) hP hD hS hA [0, 1] [] rfl rfl rfl (by decide) (va_runV (As := []) (rest := []) ⟨hx, hb, hml, hown, hts⟩ (f_X10_isColony l G cI cJ cZ cB cQ _ h0 b 0) (cwV 0 hts (gV w_1554 w_1556 wp_120 w_11 w_1557) rfl rfl rfl ⟨rfl, hd_X10_isColony⟩ ⟨Nat.le_of_ble_eq_true rfl, Nat.le_of_ble_eq_true rfl⟩) (mV hK hZ hP hD [0, 1] rfl rfl [] 0 10 rfl rfl) rfl rfl hl.1 rfl (lv_room (Nat.le_of_ble_eq_true rfl)) dX10_anew_1 ⟨Nat.le_of_ble_eq_true rfl, Nat.le_of_ble_eq_true rfl⟩) (fun r1 u2 H locs hw3 hP hD hS => ?_)
  try dsimp only at hw3
  have hP : va_P G vwCl [(h0, oX10 b 0 0 0 0 0 0 0 0 (-1) 0 0 0 0 0 0 0 0 0), (b 1, .inl (cI, 149, .inl (fun _ => 0)))] H := hP
  have hD : va_D A [(h0, oX10 b 0 0 0 0 0 0 0 0 (-1) 0 0 0 0 0 0 0 0 0), (b 1, .inl (cI, 149, .inl (fun _ => 0)))] := hD
  obtain rfl : r1 = 0 := hw3
  refine lv_if_ne (tgt := 10) hx hb dX10_anew_4 (by decide) (fun c4 => absurd (by decide) c4) (fun c4 => ?_)
  refine lv_bipush (v := (-2)) hx hb dX10_anew_7 (by decide) ?_
  exact hret _ _ _ _ (-2) () hP hD hS dX10_anew_9 rfl
set_option maxHeartbeats 4000000 in
set_option maxRecDepth 100000 in
theorem f_X10_drawn (l : Launch) (G : va_G) (cI cJ cZ cB cQ : ClassId) (sz : Nat) (h0 : Nat) (b : Nat → Nat) (p0 : Int32) (p1 : Int32) : CI l yX10_drawn (wl_ yX10_drawn cX10_drawn 4 (some .int)) ({ frames := 1, cells := 0, slots := 0, locals := 20 } : Room) G (TY cI cJ cZ cB cQ) [.ref h0, .int p0, .int p1] [(h0, oX10 b 0 0 0 0 0 0 0 0 (-1) 0 0 0 0 0 0 0 0 0), (b 1, .inl (cI, 149, .inl (fun _ => 0)))] sz (fun (r : Int32) (u : Unit) => r = (-2)) (fun _ : Unit => [(h0, oX10 b 0 0 0 0 0 0 0 0 (-1) 0 0 0 0 0 0 0 0 0), (b 1, .inl (cI, 149, .inl (fun _ => 0)))]) 0 0 := by
  refine CI.go (cc := cX10_drawn) (maxL := 4) (ret := (some .int)) (by decide) rfl (Nat.le_of_ble_eq_true rfl) ?_
  intro p e s m below meth c A ls Q hBd hret
  obtain ⟨hx, hb, hr, hml, hts, hown, hlk, hnm, hP, hK, hD, hA, hZ, hl⟩ := hBd
  have hown : s.vm.findClass RX10 = some m.cls := hown
  have hl : lv_has ls 4 [(0, .ref h0), (1, .int p0), (2, .int p1)] := hl
  have hS : va_S A s.heap s.heap [] := va_S.rf
  refine lv_aload_n hx hb dX10_drawn_0 rfl (lv_at hl 0 rfl) ?_
  refine k_i (wc := [(h0, oX10 b 0 0 0 0 0 0 0 0 (-1) 0 0 0 0 0 0 0 0 0), (b 1, .inl (cI, 149, .inl (fun _ => 0)))]) (wr := []) hP hD hS hA [0, 1] [] rfl rfl rfl (by decide) (va_runV (As := []) (rest := []) ⟨hx, hb, hml, hown, hts⟩ (f_X10_isColony l G cI cJ cZ cB cQ _ h0 b 0) (cwV 0 hts (gV w_1554 w_1556 wp_120 w_11 w_1557) rfl rfl rfl ⟨rfl, hd_X10_isColony⟩ ⟨Nat.le_of_ble_eq_true rfl, Nat.le_of_ble_eq_true rfl⟩) (mV hK hZ hP hD [0, 1] rfl rfl [] 0 10 rfl rfl) rfl rfl hl.1 rfl (lv_room (Nat.le_of_ble_eq_true rfl)) dX10_drawn_1 ⟨Nat.le_of_ble_eq_true rfl, Nat.le_of_ble_eq_true rfl⟩) (fun r1 u2 H locs hw3 hP hD hS => ?_)
  try dsimp only at hw3
  have hP : va_P G vwCl [(h0, oX10 b 0 0 0 0 0 0 0 0 (-1) 0 0 0 0 0 0 0 0 0), (b 1, .inl (cI, 149, .inl (fun _ => 0)))] H := hP
  have hD : va_D A [(h0, oX10 b 0 0 0 0 0 0 0 0 (-1) 0 0 0 0 0 0 0 0 0), (b 1, .inl (cI, 149, .inl (fun _ => 0)))] := hD
  obtain rfl : r1 = 0 := hw3
  refine lv_if_eq (tgt := 24) hx hb dX10_drawn_4 (by decide) (fun c4 => ?_) (fun c4 => absurd (by decide) c4)
  refine lv_bipush (v := (-2)) hx hb dX10_drawn_24 (by decide) ?_
  exact hret _ _ _ _ (-2) () hP hD hS dX10_drawn_26 rfl
set_option maxHeartbeats 4000000 in
set_option maxRecDepth 100000 in
theorem f_X10_luck (l : Launch) (G : va_G) (cI cJ cZ cB cQ : ClassId) (sz : Nat) (h0 : Nat) (b : Nat → Nat) (p0 : Int32) (p1 : Int32) (p2 : Int32) : CI l yX10_luck (wl_ yX10_luck cX10_luck 6 (some .int)) ({ frames := 2, cells := 0, slots := 0, locals := 45 } : Room) G (TY cI cJ cZ cB cQ) [.ref h0, .int p0, .int p1, .int p2] [(h0, oX10 b 0 0 0 0 0 0 0 0 (-1) 0 0 0 0 0 0 0 0 0), (b 1, .inl (cI, 149, .inl (fun _ => 0)))] sz (fun (r : Int32) (u : Unit) => r = (-2)) (fun _ : Unit => [(h0, oX10 b 0 0 0 0 0 0 0 0 (-1) 0 0 0 0 0 0 0 0 0), (b 1, .inl (cI, 149, .inl (fun _ => 0)))]) 0 0 := by
  refine CI.go (cc := cX10_luck) (maxL := 6) (ret := (some .int)) (by decide) rfl (Nat.le_of_ble_eq_true rfl) ?_
  intro p e s m below meth c A ls Q hBd hret
  obtain ⟨hx, hb, hr, hml, hts, hown, hlk, hnm, hP, hK, hD, hA, hZ, hl⟩ := hBd
  have hown : s.vm.findClass RX10 = some m.cls := hown
  have hl : lv_has ls 6 [(0, .ref h0), (1, .int p0), (2, .int p1), (3, .int p2)] := hl
  have hS : va_S A s.heap s.heap [] := va_S.rf
  refine lv_iload_n hx hb dX10_luck_0 rfl (lv_at hl 1 rfl) ?_
  refine k_i (wc := []) (wr := [(h0, oX10 b 0 0 0 0 0 0 0 0 (-1) 0 0 0 0 0 0 0 0 0), (b 1, .inl (cI, 149, .inl (fun _ => 0)))]) hP hD hS hA [] [0, 1] rfl rfl rfl (by decide) (va_runS (As := [.int p0]) (rest := []) ⟨hx, hb, hml, hown, hts⟩ (f_X10_isSeed l G cI cJ cZ cB cQ _ p0 p0.toInt rfl) (va_cwS 1 hts (gS w_1948 w_1949 w_11 w_1950) rfl rfl rfl hd_X10_isSeed ⟨Nat.le_of_ble_eq_true rfl, Nat.le_of_ble_eq_true rfl⟩) (mS hK hZ hP hD [] rfl rfl [.int p0]) rfl rfl hl.1 rfl (lv_room (Nat.le_of_ble_eq_true rfl)) dX10_luck_1 ⟨Nat.le_of_ble_eq_true rfl, Nat.le_of_ble_eq_true rfl⟩) (fun r1 u2 H locs hw3 hP hD hS => ?_)
  try dsimp only at hw3
  have hP : va_P G vwCl [(h0, oX10 b 0 0 0 0 0 0 0 0 (-1) 0 0 0 0 0 0 0 0 0), (b 1, .inl (cI, 149, .inl (fun _ => 0)))] H := hP
  have hD : va_D A [(h0, oX10 b 0 0 0 0 0 0 0 0 (-1) 0 0 0 0 0 0 0 0 0), (b 1, .inl (cI, 149, .inl (fun _ => 0)))] := hD
  rcases hw3 with ⟨rfl, a4, b5⟩ | ⟨rfl, a4⟩
  · skip
    refine lv_if_eq (tgt := 28) hx hb dX10_luck_4 (by decide) (fun c6 => absurd c6 (by decide)) (fun c6 => ?_)
    refine lv_iload_n hx hb dX10_luck_7 rfl (lv_at hl 2 rfl) ?_
    obtain ⟨v7, ev7⟩ : ∃ y : Int64, p1.toInt64 = y := ⟨_, rfl⟩
    have tv7 : v7.toInt = p1.toInt := ti_wide rfl ev7
    refine lv_i2l (v := v7) hx hb dX10_luck_8 ev7 ?_
    refine lv_lconst (v := 1) hx hb dX10_luck_9 (by decide) ?_
    refine lv_ldc2 (v := 20) hx hb hown (hts _ w_1964) dX10_luck_10 ?_
    refine k_i (wc := []) (wr := [(h0, oX10 b 0 0 0 0 0 0 0 0 (-1) 0 0 0 0 0 0 0 0 0), (b 1, .inl (cI, 149, .inl (fun _ => 0)))]) hP hD hS hA [] [0, 1] rfl rfl rfl (by decide) (va_runS (As := [.long v7, .long 1, .long 20]) (rest := []) ⟨hx, hb, hml, hown, hts⟩ (f_X10_in l G cI cJ cZ cB cQ _ v7 1 20 p1.toInt 1 20 tv7 kl_1 kl_20) (va_cwS 3 hts (gS w_1336 w_1337 w_11 w_1338) rfl rfl rfl hd_X10_in ⟨Nat.le_of_ble_eq_true rfl, Nat.le_of_ble_eq_true rfl⟩) (mS hK hZ hP hD [] rfl rfl [.long v7, .long 1, .long 20]) rfl rfl hl.1 rfl (lv_room (Nat.le_of_ble_eq_true rfl)) dX10_luck_13 ⟨Nat.le_of_ble_eq_true rfl, Nat.le_of_ble_eq_true rfl⟩) (fun r8 u9 H locs hw10 hP hD hS => ?_)
    try dsimp only at hw10
    have hP : va_P G vwCl [(h0, oX10 b 0 0 0 0 0 0 0 0 (-1) 0 0 0 0 0 0 0 0 0), (b 1, .inl (cI, 149, .inl (fun _ => 0)))] H := hP
    have hD : va_D A [(h0, oX10 b 0 0 0 0 0 0 0 0 (-1) 0 0 0 0 0 0 0 0 0), (b 1, .inl (cI, 149, .inl (fun _ => 0)))] := hD
    rcases hw10 with ⟨rfl, a11, b12⟩ | ⟨rfl, a11⟩
    · skip
      refine lv_if_eq (tgt := 28) hx hb dX10_luck_16 (by decide) (fun c13 => absurd c13 (by decide)) (fun c13 => ?_)
      refine lv_aload_n hx hb dX10_luck_19 rfl (lv_at hl 0 rfl) ?_
      refine lv_iload_n hx hb dX10_luck_20 rfl (lv_at hl 3 rfl) ?_
      obtain ⟨v14, ev14⟩ : ∃ y : Int64, p2.toInt64 = y := ⟨_, rfl⟩
      have tv14 : v14.toInt = p2.toInt := ti_wide rfl ev14
      refine lv_i2l (v := v14) hx hb dX10_luck_21 ev14 ?_
      refine k_i (wc := [(h0, oX10 b 0 0 0 0 0 0 0 0 (-1) 0 0 0 0 0 0 0 0 0), (b 1, .inl (cI, 149, .inl (fun _ => 0)))]) (wr := []) hP hD hS hA [0, 1] [] rfl rfl rfl (by decide) (va_runV (As := [.long v14]) (rest := []) ⟨hx, hb, hml, hown, hts⟩ (f_X10_isCell l G cI cJ cZ cB cQ _ h0 b 0 v14) (cwV 1 hts (gV w_1550 w_1552 wp_119 w_11 w_1553) rfl rfl rfl ⟨rfl, hd_X10_isCell⟩ ⟨Nat.le_of_ble_eq_true rfl, Nat.le_of_ble_eq_true rfl⟩) (mV hK hZ hP hD [0, 1] rfl rfl [.long v14] 0 10 rfl rfl) rfl rfl hl.1 rfl (lv_room (Nat.le_of_ble_eq_true rfl)) dX10_luck_22 ⟨Nat.le_of_ble_eq_true rfl, Nat.le_of_ble_eq_true rfl⟩) (fun r15 u16 H locs hw17 hP hD hS => ?_)
      try dsimp only at hw17
      have hP : va_P G vwCl [(h0, oX10 b 0 0 0 0 0 0 0 0 (-1) 0 0 0 0 0 0 0 0 0), (b 1, .inl (cI, 149, .inl (fun _ => 0)))] H := hP
      have hD : va_D A [(h0, oX10 b 0 0 0 0 0 0 0 0 (-1) 0 0 0 0 0 0 0 0 0), (b 1, .inl (cI, 149, .inl (fun _ => 0)))] := hD
      obtain rfl : r15 = 0 := hw17
      refine lv_if_ne (tgt := 31) hx hb dX10_luck_25 (by decide) (fun c18 => absurd (by decide) c18) (fun c18 => ?_)
      refine lv_bipush (v := (-2)) hx hb dX10_luck_28 (by decide) ?_
      exact hret _ _ _ _ (-2) () hP hD hS dX10_luck_30 rfl
    · skip
      refine lv_if_eq (tgt := 28) hx hb dX10_luck_16 (by decide) (fun c19 => ?_) (fun c19 => absurd (by decide) c19)
      refine lv_bipush (v := (-2)) hx hb dX10_luck_28 (by decide) ?_
      exact hret _ _ _ _ (-2) () hP hD hS dX10_luck_30 rfl
  · skip
    refine lv_if_eq (tgt := 28) hx hb dX10_luck_4 (by decide) (fun c20 => ?_) (fun c20 => absurd (by decide) c20)
    refine lv_bipush (v := (-2)) hx hb dX10_luck_28 (by decide) ?_
    exact hret _ _ _ _ (-2) () hP hD hS dX10_luck_30 rfl
set_option maxHeartbeats 4000000 in
set_option maxRecDepth 100000 in
theorem f_X10_rate (l : Launch) (G : va_G) (cI cJ cZ cB cQ : ClassId) (sz : Nat) (h0 : Nat) (b : Nat → Nat) (p0 : Int32) (p1 : Int32) : CI l yX10_rate (wl_ yX10_rate cX10_rate 4 (some .int)) ({ frames := 2, cells := 0, slots := 0, locals := 47 } : Room) G (TY cI cJ cZ cB cQ) [.ref h0, .int p0, .int p1] [(h0, oX10 b 0 0 0 0 0 0 0 0 (-1) 0 0 0 0 0 0 0 0 0), (b 1, .inl (cI, 149, .inl (fun _ => 0)))] sz (fun (r : Int32) (u : Unit) => r = (-2)) (fun _ : Unit => [(h0, oX10 b 0 0 0 0 0 0 0 0 (-1) 0 0 0 0 0 0 0 0 0), (b 1, .inl (cI, 149, .inl (fun _ => 0)))]) 0 0 := by
  refine CI.go (cc := cX10_rate) (maxL := 4) (ret := (some .int)) (by decide) rfl (Nat.le_of_ble_eq_true rfl) ?_
  intro p e s m below meth c A ls Q hBd hret
  obtain ⟨hx, hb, hr, hml, hts, hown, hlk, hnm, hP, hK, hD, hA, hZ, hl⟩ := hBd
  have hown : s.vm.findClass RX10 = some m.cls := hown
  have hl : lv_has ls 4 [(0, .ref h0), (1, .int p0), (2, .int p1)] := hl
  have hS : va_S A s.heap s.heap [] := va_S.rf
  refine lv_aload_n hx hb dX10_rate_0 rfl (lv_at hl 0 rfl) ?_
  refine lv_iload_n hx hb dX10_rate_1 rfl (lv_at hl 1 rfl) ?_
  obtain ⟨v1, ev1⟩ : ∃ y : Int64, p0.toInt64 = y := ⟨_, rfl⟩
  have tv1 : v1.toInt = p0.toInt := ti_wide rfl ev1
  refine lv_i2l (v := v1) hx hb dX10_rate_2 ev1 ?_
  refine k_i (wc := [(h0, oX10 b 0 0 0 0 0 0 0 0 (-1) 0 0 0 0 0 0 0 0 0), (b 1, .inl (cI, 149, .inl (fun _ => 0)))]) (wr := []) hP hD hS hA [0, 1] [] rfl rfl rfl (by decide) (va_runV (As := [.long v1]) (rest := []) ⟨hx, hb, hml, hown, hts⟩ (f_X10_isWidow l G cI cJ cZ cB cQ _ h0 b 0 v1) (cwV 1 hts (gV w_1460 w_1462 wp_101 w_11 w_1463) rfl rfl rfl ⟨rfl, hd_X10_isWidow⟩ ⟨Nat.le_of_ble_eq_true rfl, Nat.le_of_ble_eq_true rfl⟩) (mV hK hZ hP hD [0, 1] rfl rfl [.long v1] 0 10 rfl rfl) rfl rfl hl.1 rfl (lv_room (Nat.le_of_ble_eq_true rfl)) dX10_rate_3 ⟨Nat.le_of_ble_eq_true rfl, Nat.le_of_ble_eq_true rfl⟩) (fun r2 u3 H locs hw4 hP hD hS => ?_)
  try dsimp only at hw4
  have hP : va_P G vwCl [(h0, oX10 b 0 0 0 0 0 0 0 0 (-1) 0 0 0 0 0 0 0 0 0), (b 1, .inl (cI, 149, .inl (fun _ => 0)))] H := hP
  have hD : va_D A [(h0, oX10 b 0 0 0 0 0 0 0 0 (-1) 0 0 0 0 0 0 0 0 0), (b 1, .inl (cI, 149, .inl (fun _ => 0)))] := hD
  obtain rfl : r2 = 0 := hw4
  refine lv_if_eq (tgt := 21) hx hb dX10_rate_6 (by decide) (fun c5 => ?_) (fun c5 => absurd (by decide) c5)
  refine lv_bipush (v := (-2)) hx hb dX10_rate_21 (by decide) ?_
  exact hret _ _ _ _ (-2) () hP hD hS dX10_rate_23 rfl
set_option maxHeartbeats 4000000 in
set_option maxRecDepth 100000 in
theorem f_X10_feed (l : Launch) (G : va_G) (cI cJ cZ cB cQ : ClassId) (sz : Nat) (h0 : Nat) (b : Nat → Nat) (p0 : Int32) (p1 : Int32) (p2 : Int32) (p3 : Int32) (p4 : Int32) : CI l yX10_feed (wl_ yX10_feed cX10_feed 7 (some .int)) ({ frames := 0, cells := 0, slots := 0, locals := 0 } : Room) G (TY cI cJ cZ cB cQ) [.ref h0, .int p0, .int p1, .int p2, .int p3, .int p4] [(h0, oX10 b 0 0 0 0 0 0 0 0 (-1) 0 0 0 0 0 0 0 0 0), (b 4, .inl (cB, 900, .inl (fun _ => 0))), (b 6, .inl (cI, 5, .inl (fun _ => 0)))] sz (fun (r : Int32) (u : (Nat → Int32) × (Nat → Int32)) => r = 20) (fun u : (Nat → Int32) × (Nat → Int32) => [(h0, oX10 b 0 20 0 0 0 0 0 0 (-1) 0 0 0 0 0 0 0 0 0), (b 4, .inl (cB, 900, .inl u.1)), (b 6, .inl (cI, 5, .inl u.2))]) 0 0 := by
  refine CI.go (cc := cX10_feed) (maxL := 7) (ret := (some .int)) (by decide) rfl (Nat.le_of_ble_eq_true rfl) ?_
  intro p e s m below meth c A ls Q hBd hret
  obtain ⟨hx, hb, hr, hml, hts, hown, hlk, hnm, hP, hK, hD, hA, hZ, hl⟩ := hBd
  have hown : s.vm.findClass RX10 = some m.cls := hown
  have hl : lv_has ls 7 [(0, .ref h0), (1, .int p0), (2, .int p1), (3, .int p2), (4, .int p3), (5, .int p4)] := hl
  have hS : va_S A s.heap s.heap [] := va_S.rf
  refine lv_aload_n hx hb dX10_feed_0 rfl (lv_at hl 0 rfl) ?_
  refine va_get (D := G) (ci := 10) (v := .int 0) (C := RX10) (T := TX10) (N := 46) hx hb hts iG_X10 hown hK hP 0 rfl rfl 5 (by decide) (hts _ w_1197) (fun _ h9 => h9) rfl dX10_feed_1 ?_
  refine lv_bipush (v := 20) hx hb dX10_feed_4 (by decide) ?_
  refine lv_iadd hx hb dX10_feed_6 ?_
  refine lv_topi (fun v1 ev1 => ?_)
  obtain rfl : v1 = 20 := ev1.trans (by decide)
  refine lv_sipush (v := 900) hx hb dX10_feed_7 (by decide) ?_
  refine lv_icmp_le (tgt := 15) hx hb dX10_feed_10 (by decide) (fun c2 => ?_) (fun c2 => absurd (by decide) c2)
  refine lv_aload_n hx hb dX10_feed_15 rfl (lv_at hl 0 rfl) ?_
  refine va_get (D := G) (ci := 10) (v := .ref (b 6)) (C := RX10) (T := TX10) (N := 46) hx hb hts iG_X10 hown hK hP 0 rfl rfl 6 (by decide) (hts _ w_1198) (fun _ h9 => h9) rfl dX10_feed_16 ?_
  refine lv_iconst (v := 0) hx hb dX10_feed_19 (by decide) ?_
  refine lv_iload_n hx hb dX10_feed_20 rfl (lv_at hl 1 rfl) ?_
  refine va_iast hx hb hK hP hD hS 2 0 rfl rfl (ix_in ki_0 (by omega) (by omega)) dX10_feed_21 (fun H locs hP hD hS => ?_)
  generalize upd (fun _ => 0) (0 : Int32).toNatClampNeg p0 = f3 at hP hD
  have hP : va_P G vwCl [(h0, oX10 b 0 0 0 0 0 0 0 0 (-1) 0 0 0 0 0 0 0 0 0), (b 4, .inl (cB, 900, .inl (fun _ => 0))), (b 6, .inl (cI, 5, .inl f3))] H := hP
  have hD : va_D A [(h0, oX10 b 0 0 0 0 0 0 0 0 (-1) 0 0 0 0 0 0 0 0 0), (b 4, .inl (cB, 900, .inl (fun _ => 0))), (b 6, .inl (cI, 5, .inl f3))] := hD
  refine lv_aload_n hx hb dX10_feed_22 rfl (lv_at hl 0 rfl) ?_
  refine va_get (D := G) (ci := 10) (v := .ref (b 6)) (C := RX10) (T := TX10) (N := 46) hx hb hts iG_X10 hown hK hP 0 rfl rfl 6 (by decide) (hts _ w_1198) (fun _ h9 => h9) rfl dX10_feed_23 ?_
  refine lv_iconst (v := 1) hx hb dX10_feed_26 (by decide) ?_
  refine lv_iload_n hx hb dX10_feed_27 rfl (lv_at hl 2 rfl) ?_
  refine va_iast hx hb hK hP hD hS 2 0 rfl rfl (ix_in ki_1 (by omega) (by omega)) dX10_feed_28 (fun H locs hP hD hS => ?_)
  generalize upd f3 (1 : Int32).toNatClampNeg p1 = f4 at hP hD
  have hP : va_P G vwCl [(h0, oX10 b 0 0 0 0 0 0 0 0 (-1) 0 0 0 0 0 0 0 0 0), (b 4, .inl (cB, 900, .inl (fun _ => 0))), (b 6, .inl (cI, 5, .inl f4))] H := hP
  have hD : va_D A [(h0, oX10 b 0 0 0 0 0 0 0 0 (-1) 0 0 0 0 0 0 0 0 0), (b 4, .inl (cB, 900, .inl (fun _ => 0))), (b 6, .inl (cI, 5, .inl f4))] := hD
  refine lv_aload_n hx hb dX10_feed_29 rfl (lv_at hl 0 rfl) ?_
  refine va_get (D := G) (ci := 10) (v := .ref (b 6)) (C := RX10) (T := TX10) (N := 46) hx hb hts iG_X10 hown hK hP 0 rfl rfl 6 (by decide) (hts _ w_1198) (fun _ h9 => h9) rfl dX10_feed_30 ?_
  refine lv_iconst (v := 2) hx hb dX10_feed_33 (by decide) ?_
  refine lv_iload_n hx hb dX10_feed_34 rfl (lv_at hl 3 rfl) ?_
  refine va_iast hx hb hK hP hD hS 2 0 rfl rfl (ix_in ki_2 (by omega) (by omega)) dX10_feed_35 (fun H locs hP hD hS => ?_)
  generalize upd f4 (2 : Int32).toNatClampNeg p2 = f5 at hP hD
  have hP : va_P G vwCl [(h0, oX10 b 0 0 0 0 0 0 0 0 (-1) 0 0 0 0 0 0 0 0 0), (b 4, .inl (cB, 900, .inl (fun _ => 0))), (b 6, .inl (cI, 5, .inl f5))] H := hP
  have hD : va_D A [(h0, oX10 b 0 0 0 0 0 0 0 0 (-1) 0 0 0 0 0 0 0 0 0), (b 4, .inl (cB, 900, .inl (fun _ => 0))), (b 6, .inl (cI, 5, .inl f5))] := hD
  refine lv_aload_n hx hb dX10_feed_36 rfl (lv_at hl 0 rfl) ?_
  refine va_get (D := G) (ci := 10) (v := .ref (b 6)) (C := RX10) (T := TX10) (N := 46) hx hb hts iG_X10 hown hK hP 0 rfl rfl 6 (by decide) (hts _ w_1198) (fun _ h9 => h9) rfl dX10_feed_37 ?_
  refine lv_iconst (v := 3) hx hb dX10_feed_40 (by decide) ?_
  refine lv_iload hx hb dX10_feed_41 (lv_at hl 4 rfl) ?_
  refine va_iast hx hb hK hP hD hS 2 0 rfl rfl (ix_in ki_3 (by omega) (by omega)) dX10_feed_43 (fun H locs hP hD hS => ?_)
  generalize upd f5 (3 : Int32).toNatClampNeg p3 = f6 at hP hD
  have hP : va_P G vwCl [(h0, oX10 b 0 0 0 0 0 0 0 0 (-1) 0 0 0 0 0 0 0 0 0), (b 4, .inl (cB, 900, .inl (fun _ => 0))), (b 6, .inl (cI, 5, .inl f6))] H := hP
  have hD : va_D A [(h0, oX10 b 0 0 0 0 0 0 0 0 (-1) 0 0 0 0 0 0 0 0 0), (b 4, .inl (cB, 900, .inl (fun _ => 0))), (b 6, .inl (cI, 5, .inl f6))] := hD
  refine lv_aload_n hx hb dX10_feed_44 rfl (lv_at hl 0 rfl) ?_
  refine va_get (D := G) (ci := 10) (v := .ref (b 6)) (C := RX10) (T := TX10) (N := 46) hx hb hts iG_X10 hown hK hP 0 rfl rfl 6 (by decide) (hts _ w_1198) (fun _ h9 => h9) rfl dX10_feed_45 ?_
  refine lv_iconst (v := 4) hx hb dX10_feed_48 (by decide) ?_
  refine lv_iload hx hb dX10_feed_49 (lv_at hl 5 rfl) ?_
  refine va_iast hx hb hK hP hD hS 2 0 rfl rfl (ix_in ki_4 (by omega) (by omega)) dX10_feed_51 (fun H locs hP hD hS => ?_)
  generalize upd f6 (4 : Int32).toNatClampNeg p4 = f7 at hP hD
  have hP : va_P G vwCl [(h0, oX10 b 0 0 0 0 0 0 0 0 (-1) 0 0 0 0 0 0 0 0 0), (b 4, .inl (cB, 900, .inl (fun _ => 0))), (b 6, .inl (cI, 5, .inl f7))] H := hP
  have hD : va_D A [(h0, oX10 b 0 0 0 0 0 0 0 0 (-1) 0 0 0 0 0 0 0 0 0), (b 4, .inl (cB, 900, .inl (fun _ => 0))), (b 6, .inl (cI, 5, .inl f7))] := hD
  refine lv_iconst (v := 0) hx hb dX10_feed_52 (by decide) ?_
  refine lv_istore (lv' := [(6, .int 0), (0, .ref h0), (1, .int p0), (2, .int p1), (3, .int p2), (4, .int p3), (5, .int p4)]) hx hb dX10_feed_53 hl (by decide) rfl (fun ls hl => ?_)
  have lp8 : ∀ (n9 : Nat) (x10 : Int32) (f11 : Nat → Int32), 0 ≤ x10.toInt → x10.toInt ≤ 20 → 20 - x10.toInt < (n9 : Int) → ∀ (H : Heap) (locs : List Loc), va_P G vwCl [(h0, oX10 b 0 0 0 0 0 0 0 0 (-1) 0 0 0 0 0 0 0 0 0), (b 4, .inl (cB, 900, .inl f11)), (b 6, .inl (cI, 5, .inl f7))] H → va_D A [(h0, oX10 b 0 0 0 0 0 0 0 0 (-1) 0 0 0 0 0 0 0 0 0), (b 4, .inl (cB, 900, .inl f11)), (b 6, .inl (cI, 5, .inl f7))] → va_S A s.heap H locs → ∀ (ls : Array Slot), lv_has ls 7 [(6, .int x10), (0, .ref h0), (1, .int p0), (2, .int p1), (3, .int p2), (4, .int p3), (5, .int p4)] → W p l e ({ frames := 0, cells := 0, slots := 0, locals := 0 } : Room) s m ([.ref h0, .int p0, .int p1, .int p2, .int p3, .int p4] : List Value).toArray below meth c H locs 0 0 Q (F0 m 55 ls []) := by
    intro n9
    induction n9 with
    | zero =>
      intro x10 f11 f11_0 f11_1 f11_2
      exact absurd f11_2 (by omega)
    | succ n9 ih12 =>
      intro x10 f11 f11_0 f11_1 f11_2 H locs hP hD hS ls hl
      refine lv_iload hx hb dX10_feed_55 (lv_at hl 0 rfl) ?_
      refine lv_bipush (v := 20) hx hb dX10_feed_57 (by decide) ?_
      refine lv_icmp_ge (tgt := 101) hx hb dX10_feed_59 (by decide) (fun c13 => ?_) (fun c13 => ?_)
      · have c13 := i_le ki_20 rfl c13
        refine lv_aload_n hx hb dX10_feed_101 rfl (lv_at hl 1 rfl) ?_
        refine lv_dup hx hb dX10_feed_102 rfl ?_
        refine va_get (D := G) (ci := 10) (v := .int 0) (C := RX10) (T := TX10) (N := 46) hx hb hts iG_X10 hown hK hP 0 rfl rfl 5 (by decide) (hts _ w_1197) (fun _ h9 => h9) rfl dX10_feed_103 ?_
        refine lv_bipush (v := 20) hx hb dX10_feed_106 (by decide) ?_
        refine lv_iadd hx hb dX10_feed_108 ?_
        refine lv_topi (fun v14 ev14 => ?_)
        obtain rfl : v14 = 20 := ev14.trans (by decide)
        refine va_put (D := G) (ci := 10) (v := .int 20) (ty := .int) (C := RX10) (T := TX10) (N := 46) hx hb hts iG_X10 tyX10 tyX10_ok nmX10 hown hK hP hD hS 0 rfl rfl 5 (by decide) (hts _ w_1197) (fun _ h9 => h9) rfl (by decide +kernel) rfl rfl (Nat.le_of_ble_eq_true rfl) dX10_feed_109 (fun H locs hP hD hS => ?_)
        have hP : va_P G vwCl [(h0, oX10 b 0 20 0 0 0 0 0 0 (-1) 0 0 0 0 0 0 0 0 0), (b 4, .inl (cB, 900, .inl f11)), (b 6, .inl (cI, 5, .inl f7))] H := hP
        have hD : va_D A [(h0, oX10 b 0 20 0 0 0 0 0 0 (-1) 0 0 0 0 0 0 0 0 0), (b 4, .inl (cB, 900, .inl f11)), (b 6, .inl (cI, 5, .inl f7))] := hD
        refine lv_aload_n hx hb dX10_feed_112 rfl (lv_at hl 1 rfl) ?_
        refine va_get (D := G) (ci := 10) (v := .int 20) (C := RX10) (T := TX10) (N := 46) hx hb hts iG_X10 hown hK hP 0 rfl rfl 5 (by decide) (hts _ w_1197) (fun _ h9 => h9) rfl dX10_feed_113 ?_
        exact hret _ _ _ _ 20 (f11, f7) hP hD hS dX10_feed_116 rfl
      · have c13 := i_nle ki_20 rfl c13
        refine lv_aload_n hx hb dX10_feed_62 rfl (lv_at hl 1 rfl) ?_
        refine va_get (D := G) (ci := 10) (v := .ref (b 4)) (C := RX10) (T := TX10) (N := 46) hx hb hts iG_X10 hown hK hP 0 rfl rfl 4 (by decide) (hts _ w_1196) (fun _ h9 => h9) rfl dX10_feed_63 ?_
        refine lv_aload_n hx hb dX10_feed_66 rfl (lv_at hl 1 rfl) ?_
        refine va_get (D := G) (ci := 10) (v := .int 0) (C := RX10) (T := TX10) (N := 46) hx hb hts iG_X10 hown hK hP 0 rfl rfl 5 (by decide) (hts _ w_1197) (fun _ h9 => h9) rfl dX10_feed_67 ?_
        refine lv_iload hx hb dX10_feed_70 (lv_at hl 0 rfl) ?_
        refine lv_iadd hx hb dX10_feed_72 ?_
        refine lv_topi (fun v15 ev15 => ?_)
        have tv15 : v15.toInt = 0 + x10.toInt := ti_add ki_0 rfl ev15 (by omega) (by omega)
        refine lv_aload_n hx hb dX10_feed_73 rfl (lv_at hl 1 rfl) ?_
        refine va_get (D := G) (ci := 10) (v := .ref (b 6)) (C := RX10) (T := TX10) (N := 46) hx hb hts iG_X10 hown hK hP 0 rfl rfl 6 (by decide) (hts _ w_1198) (fun _ h9 => h9) rfl dX10_feed_74 ?_
        refine lv_iload hx hb dX10_feed_77 (lv_at hl 0 rfl) ?_
        refine lv_iconst (v := 4) hx hb dX10_feed_79 (by decide) ?_
        refine lv_idiv hx hb dX10_feed_80 (by decide) ?_
        refine lv_topi (fun v16 ev16 => ?_)
        have tv16 : v16.toInt = x10.toInt / 4 := ti_div rfl (by omega) (by decide) ki_4 ev16
        refine va_iald hx hb hK hP 2 0 rfl rfl (ix_in tv16 (by omega) (by omega)) dX10_feed_81 ?_
        refine lv_topi (fun v17 ev17 => ?_)
        refine lv_bipush (v := 24) hx hb dX10_feed_82 (by decide) ?_
        refine lv_bipush (v := 8) hx hb dX10_feed_84 (by decide) ?_
        refine lv_iload hx hb dX10_feed_86 (lv_at hl 0 rfl) ?_
        refine lv_iconst (v := 4) hx hb dX10_feed_88 (by decide) ?_
        refine lv_irem hx hb dX10_feed_89 (by decide) ?_
        refine lv_topi (fun v18 ev18 => ?_)
        have tv18 : v18.toInt = x10.toInt % 4 := ti_rem rfl (by omega) (by decide) ki_4 ev18
        refine lv_imul hx hb dX10_feed_90 ?_
        refine lv_topi (fun v19 ev19 => ?_)
        have tv19 : v19.toInt = 8 * (x10.toInt % 4) := ti_mul ki_8 tv18 ev19 (by omega) (by omega)
        refine lv_isub hx hb dX10_feed_91 ?_
        refine lv_topi (fun v20 ev20 => ?_)
        have tv20 : v20.toInt = 24 - (8 * (x10.toInt % 4)) := ti_sub ki_24 tv19 ev20 (by omega) (by omega)
        refine lv_ishr hx hb dX10_feed_92 ?_
        refine lv_topi (fun v21 ev21 => ?_)
        refine lv_i2b hx hb dX10_feed_93 rfl ?_
        refine lv_topi (fun v22 ev22 => ?_)
        refine va_bast hx hb hK hP hD hS 1 3 rfl rfl (ix_in tv15 (by omega) (by omega)) dX10_feed_94 (fun H locs hP hD hS => ?_)
        generalize upd f11 v15.toNatClampNeg (vp_nar .byte v22) = f23 at hP hD
        have hP : va_P G vwCl [(h0, oX10 b 0 0 0 0 0 0 0 0 (-1) 0 0 0 0 0 0 0 0 0), (b 4, .inl (cB, 900, .inl f23)), (b 6, .inl (cI, 5, .inl f7))] H := hP
        have hD : va_D A [(h0, oX10 b 0 0 0 0 0 0 0 0 (-1) 0 0 0 0 0 0 0 0 0), (b 4, .inl (cB, 900, .inl f23)), (b 6, .inl (cI, 5, .inl f7))] := hD
        obtain ⟨v24, ev24⟩ : ∃ y : Int32, y = x10 + 1 := ⟨_, rfl⟩
        have tv24 : v24.toInt = x10.toInt + 1 := ti_add rfl ki_1 ev24 (by omega) (by omega)
        refine lv_iinc (v := v24) (lv' := [(6, .int v24), (0, .ref h0), (1, .int p0), (2, .int p1), (3, .int p2), (4, .int p3), (5, .int p4)]) hx hb dX10_feed_95 hl (k := 0) rfl (by rw [ev24]; rfl) (by decide) rfl (fun ls hl => ?_)
        refine lv_goto (tgt := 55) hx hb dX10_feed_98 (by decide) ?_
        exact ih12 v24 f23 (by omega) (by omega) (by omega) _ _ hP hD hS ls (lv_sub hl [0, 1, 2, 3, 4, 5, 6] rfl)
  exact lp8 21 0 (fun _ => 0) (by rw [ki_0]; decide) (by rw [ki_0]; decide) (by rw [ki_0]; decide) _ _ hP hD hS ls (lv_sub hl [0, 1, 2, 3, 4, 5, 6] rfl)
set_option maxHeartbeats 4000000 in
set_option maxRecDepth 100000 in
theorem f_X10_end (l : Launch) (G : va_G) (cI cJ cZ cB cQ : ClassId) (sz : Nat) (h0 : Nat) (b : Nat → Nat) (p0 : Int32) : CI l yX10_end (wl_ yX10_end cX10_end 2 (some .int)) ({ frames := 1, cells := 0, slots := 0, locals := 25 } : Room) G (TY cI cJ cZ cB cQ) [.ref h0, .int p0] [(h0, oX10 b 0 0 0 0 0 0 0 0 (-1) 0 0 0 0 0 0 0 0 0)] sz (fun (r : Int32) (u : Int32) => r = if p0.toInt = 0 then 0 else -1) (fun u : Int32 => [(h0, oX10 b 0 u 0 0 0 0 0 0 (-1) 0 0 0 0 0 0 0 0 0)]) 0 0 := by
  refine CI.go (cc := cX10_end) (maxL := 2) (ret := (some .int)) (by decide) rfl (Nat.le_of_ble_eq_true rfl) ?_
  intro p e s m below meth c A ls Q hBd hret
  obtain ⟨hx, hb, hr, hml, hts, hown, hlk, hnm, hP, hK, hD, hA, hZ, hl⟩ := hBd
  have hown : s.vm.findClass RX10 = some m.cls := hown
  have hl : lv_has ls 2 [(0, .ref h0), (1, .int p0)] := hl
  have hS : va_S A s.heap s.heap [] := va_S.rf
  refine lv_iload_n hx hb dX10_end_0 rfl (lv_at hl 1 rfl) ?_
  obtain ⟨v1, ev1⟩ : ∃ y : Int64, p0.toInt64 = y := ⟨_, rfl⟩
  have tv1 : v1.toInt = p0.toInt := ti_wide rfl ev1
  refine lv_i2l (v := v1) hx hb dX10_end_1 ev1 ?_
  refine lv_lconst (v := 0) hx hb dX10_end_2 (by decide) ?_
  refine lv_aload_n hx hb dX10_end_3 rfl (lv_at hl 0 rfl) ?_
  refine va_get (D := G) (ci := 10) (v := .int 0) (C := RX10) (T := TX10) (N := 46) hx hb hts iG_X10 hown hK hP 0 rfl rfl 5 (by decide) (hts _ w_1197) (fun _ h9 => h9) rfl dX10_end_4 ?_
  refine lv_i2l (v := 0) hx hb dX10_end_7 (by decide) ?_
  refine k_i (wc := []) (wr := [(h0, oX10 b 0 0 0 0 0 0 0 0 (-1) 0 0 0 0 0 0 0 0 0)]) hP hD hS hA [] [0] rfl rfl rfl (by decide) (va_runS (As := [.long v1, .long 0, .long 0]) (rest := []) ⟨hx, hb, hml, hown, hts⟩ (f_X10_in l G cI cJ cZ cB cQ _ v1 0 0 p0.toInt 0 0 tv1 kl_0 kl_0) (va_cwS 3 hts (gS w_1336 w_1337 w_11 w_1338) rfl rfl rfl hd_X10_in ⟨Nat.le_of_ble_eq_true rfl, Nat.le_of_ble_eq_true rfl⟩) (mS hK hZ hP hD [] rfl rfl [.long v1, .long 0, .long 0]) rfl rfl hl.1 rfl (lv_room (Nat.le_of_ble_eq_true rfl)) dX10_end_8 ⟨Nat.le_of_ble_eq_true rfl, Nat.le_of_ble_eq_true rfl⟩) (fun r3 u4 H locs hw5 hP hD hS => ?_)
  try dsimp only at hw5
  have hP : va_P G vwCl [(h0, oX10 b 0 0 0 0 0 0 0 0 (-1) 0 0 0 0 0 0 0 0 0)] H := hP
  have hD : va_D A [(h0, oX10 b 0 0 0 0 0 0 0 0 (-1) 0 0 0 0 0 0 0 0 0)] := hD
  rcases hw5 with ⟨rfl, a6, b7⟩ | ⟨rfl, a6⟩
  · skip
    refine lv_if_ne (tgt := 16) hx hb dX10_end_11 (by decide) (fun c8 => ?_) (fun c8 => absurd c8 (by decide))
    refine lv_aload_n hx hb dX10_end_16 rfl (lv_at hl 0 rfl) ?_
    refine lv_iload_n hx hb dX10_end_17 rfl (lv_at hl 1 rfl) ?_
    refine va_put (D := G) (ci := 10) (v := .int p0) (ty := .int) (C := RX10) (T := TX10) (N := 46) hx hb hts iG_X10 tyX10 tyX10_ok nmX10 hown hK hP hD hS 0 rfl rfl 5 (by decide) (hts _ w_1197) (fun _ h9 => h9) rfl (by decide +kernel) rfl rfl (Nat.le_of_ble_eq_true rfl) dX10_end_18 (fun H locs hP hD hS => ?_)
    have hP : va_P G vwCl [(h0, oX10 b 0 p0 0 0 0 0 0 0 (-1) 0 0 0 0 0 0 0 0 0)] H := hP
    have hD : va_D A [(h0, oX10 b 0 p0 0 0 0 0 0 0 (-1) 0 0 0 0 0 0 0 0 0)] := hD
    refine lv_iload_n hx hb dX10_end_21 rfl (lv_at hl 1 rfl) ?_
    exact hret _ _ _ _ p0 p0 hP hD hS dX10_end_22 (by (repeat' split) <;> first | exact ((fa_eq _ _).mpr (by rw [ki_0]; omega)) | (exfalso; omega))
  · skip
    refine lv_if_ne (tgt := 16) hx hb dX10_end_11 (by decide) (fun c9 => absurd (by decide) c9) (fun c9 => ?_)
    refine lv_iconst (v := (-1)) hx hb dX10_end_14 (by decide) ?_
    exact hret _ _ _ _ (-1) 0 hP hD hS dX10_end_15 (by (repeat' split) <;> first | exact rfl | (exfalso; omega))
set_option maxHeartbeats 4000000 in
set_option maxRecDepth 100000 in
theorem f_X10_fault (l : Launch) (G : va_G) (cI cJ cZ cB cQ : ClassId) (sz : Nat) (h0 : Nat) (b : Nat → Nat) (p0 : Int32) : CI l yX10_fault (wl_ yX10_fault cX10_fault 2 (some .int)) ({ frames := 0, cells := 0, slots := 0, locals := 0 } : Room) G (TY cI cJ cZ cB cQ) [.ref h0, .int p0] [(h0, oX10 b 0 0 0 0 0 0 0 0 (-1) 0 0 0 0 0 0 0 0 0)] sz (fun (r : Int32) (u : Unit) => r = if p0.toInt = 0 then 0 else -1) (fun _ : Unit => [(h0, oX10 b 0 0 0 0 0 0 0 0 (-1) 0 0 0 0 0 0 0 0 0)]) 0 0 := by
  refine CI.go (cc := cX10_fault) (maxL := 2) (ret := (some .int)) (by decide) rfl (Nat.le_of_ble_eq_true rfl) ?_
  intro p e s m below meth c A ls Q hBd hret
  obtain ⟨hx, hb, hr, hml, hts, hown, hlk, hnm, hP, hK, hD, hA, hZ, hl⟩ := hBd
  have hown : s.vm.findClass RX10 = some m.cls := hown
  have hl : lv_has ls 2 [(0, .ref h0), (1, .int p0)] := hl
  have hS : va_S A s.heap s.heap [] := va_S.rf
  refine lv_iload_n hx hb dX10_fault_0 rfl (lv_at hl 1 rfl) ?_
  refine lv_if_ne (tgt := 11) hx hb dX10_fault_1 (by decide) (fun c1 => ?_) (fun c1 => ?_)
  · have c1 := i_ne rfl ki_0 c1
    refine lv_iload_n hx hb dX10_fault_11 rfl (lv_at hl 1 rfl) ?_
    refine lv_iconst (v := 1) hx hb dX10_fault_12 (by decide) ?_
    refine lv_icmp_ne (tgt := 23) hx hb dX10_fault_13 (by decide) (fun c2 => ?_) (fun c2 => ?_)
    · have c2 := i_ne rfl ki_1 c2
      refine lv_iconst (v := (-1)) hx hb dX10_fault_23 (by decide) ?_
      exact hret _ _ _ _ (-1) () hP hD hS dX10_fault_24 (by (repeat' split) <;> first | exact rfl | (exfalso; omega))
    · have c2 := i_eq rfl ki_1 c2
      refine lv_aload_n hx hb dX10_fault_16 rfl (lv_at hl 0 rfl) ?_
      refine va_get (D := G) (ci := 10) (v := .int (-1)) (C := RX10) (T := TX10) (N := 46) hx hb hts iG_X10 hown hK hP 0 rfl rfl 13 (by decide) (hts _ w_1205) (fun _ h9 => h9) rfl dX10_fault_17 ?_
      refine lv_goto (tgt := 24) hx hb dX10_fault_20 (by decide) ?_
      exact hret _ _ _ _ (-1) () hP hD hS dX10_fault_24 (by (repeat' split) <;> first | exact rfl | (exfalso; omega))
  · have c1 := i_eq rfl ki_0 c1
    refine lv_aload_n hx hb dX10_fault_4 rfl (lv_at hl 0 rfl) ?_
    refine va_get (D := G) (ci := 10) (v := .int 0) (C := RX10) (T := TX10) (N := 46) hx hb hts iG_X10 hown hK hP 0 rfl rfl 12 (by decide) (hts _ w_1204) (fun _ h9 => h9) rfl dX10_fault_5 ?_
    refine lv_goto (tgt := 24) hx hb dX10_fault_8 (by decide) ?_
    exact hret _ _ _ _ 0 () hP hD hS dX10_fault_24 (by (repeat' split) <;> first | exact rfl | (exfalso; omega))
set_option maxHeartbeats 4000000 in
set_option maxRecDepth 100000 in
theorem f_X10_colony (l : Launch) (G : va_G) (cI cJ cZ cB cQ : ClassId) (sz : Nat) (h0 : Nat) (b : Nat → Nat) : CI l yX10_colony (wl_ yX10_colony cX10_colony 2 (some .int)) ({ frames := 2, cells := 0, slots := 0, locals := 42 } : Room) G (TY cI cJ cZ cB cQ) [.ref h0] [(h0, oX10 b 0 0 0 0 0 0 0 0 (-1) 0 0 0 0 0 0 0 0 0), (b 14, .inl (cI, 149, .inl (fun _ => 0))), (b 1, .inl (cI, 149, .inl (fun _ => 0)))] sz (fun (r : Int32) (u : Unit) => r = 0) (fun _ : Unit => [(h0, oX10 b 0 0 0 0 0 0 0 0 (-1) 0 0 0 0 0 0 0 0 0), (b 14, .inl (cI, 149, .inl (fun _ => 0))), (b 1, .inl (cI, 149, .inl (fun _ => 0)))]) 0 0 := by
  refine CI.go (cc := cX10_colony) (maxL := 2) (ret := (some .int)) (by decide) rfl (Nat.le_of_ble_eq_true rfl) ?_
  intro p e s m below meth c A ls Q hBd hret
  obtain ⟨hx, hb, hr, hml, hts, hown, hlk, hnm, hP, hK, hD, hA, hZ, hl⟩ := hBd
  have hown : s.vm.findClass RX10 = some m.cls := hown
  have hl : lv_has ls 2 [(0, .ref h0)] := hl
  have hS : va_S A s.heap s.heap [] := va_S.rf
  refine lv_aload_n hx hb dX10_colony_0 rfl (lv_at hl 0 rfl) ?_
  refine lv_aload_n hx hb dX10_colony_1 rfl (lv_at hl 0 rfl) ?_
  refine va_get (D := G) (ci := 10) (v := .int 0) (C := RX10) (T := TX10) (N := 46) hx hb hts iG_X10 hown hK hP 0 rfl rfl 5 (by decide) (hts _ w_1197) (fun _ h9 => h9) rfl dX10_colony_2 ?_
  refine va_put (D := G) (ci := 10) (v := .int 0) (ty := .int) (C := RX10) (T := TX10) (N := 46) hx hb hts iG_X10 tyX10 tyX10_ok nmX10 hown hK hP hD hS 0 rfl rfl 7 (by decide) (hts _ w_1199) (fun _ h9 => h9) rfl (by decide +kernel) rfl rfl (Nat.le_of_ble_eq_true rfl) dX10_colony_5 (fun H locs hP hD hS => ?_)
  have hP : va_P G vwCl [(h0, oX10 b 0 0 0 0 0 0 0 0 (-1) 0 0 0 0 0 0 0 0 0), (b 14, .inl (cI, 149, .inl (fun _ => 0))), (b 1, .inl (cI, 149, .inl (fun _ => 0)))] H := hP
  have hD : va_D A [(h0, oX10 b 0 0 0 0 0 0 0 0 (-1) 0 0 0 0 0 0 0 0 0), (b 14, .inl (cI, 149, .inl (fun _ => 0))), (b 1, .inl (cI, 149, .inl (fun _ => 0)))] := hD
  refine lv_aload_n hx hb dX10_colony_8 rfl (lv_at hl 0 rfl) ?_
  refine lv_iconst (v := 0) hx hb dX10_colony_9 (by decide) ?_
  refine va_put (D := G) (ci := 10) (v := .int 0) (ty := .int) (C := RX10) (T := TX10) (N := 46) hx hb hts iG_X10 tyX10 tyX10_ok nmX10 hown hK hP hD hS 0 rfl rfl 5 (by decide) (hts _ w_1197) (fun _ h9 => h9) rfl (by decide +kernel) rfl rfl (Nat.le_of_ble_eq_true rfl) dX10_colony_10 (fun H locs hP hD hS => ?_)
  have hP : va_P G vwCl [(h0, oX10 b 0 0 0 0 0 0 0 0 (-1) 0 0 0 0 0 0 0 0 0), (b 14, .inl (cI, 149, .inl (fun _ => 0))), (b 1, .inl (cI, 149, .inl (fun _ => 0)))] H := hP
  have hD : va_D A [(h0, oX10 b 0 0 0 0 0 0 0 0 (-1) 0 0 0 0 0 0 0 0 0), (b 14, .inl (cI, 149, .inl (fun _ => 0))), (b 1, .inl (cI, 149, .inl (fun _ => 0)))] := hD
  refine lv_aload_n hx hb dX10_colony_13 rfl (lv_at hl 0 rfl) ?_
  refine lv_iconst (v := 0) hx hb dX10_colony_14 (by decide) ?_
  refine va_put (D := G) (ci := 10) (v := .int 0) (ty := .int) (C := RX10) (T := TX10) (N := 46) hx hb hts iG_X10 tyX10 tyX10_ok nmX10 hown hK hP hD hS 0 rfl rfl 8 (by decide) (hts _ w_1200) (fun _ h9 => h9) rfl (by decide +kernel) rfl rfl (Nat.le_of_ble_eq_true rfl) dX10_colony_15 (fun H locs hP hD hS => ?_)
  have hP : va_P G vwCl [(h0, oX10 b 0 0 0 0 0 0 0 0 (-1) 0 0 0 0 0 0 0 0 0), (b 14, .inl (cI, 149, .inl (fun _ => 0))), (b 1, .inl (cI, 149, .inl (fun _ => 0)))] H := hP
  have hD : va_D A [(h0, oX10 b 0 0 0 0 0 0 0 0 (-1) 0 0 0 0 0 0 0 0 0), (b 14, .inl (cI, 149, .inl (fun _ => 0))), (b 1, .inl (cI, 149, .inl (fun _ => 0)))] := hD
  refine lv_aload_n hx hb dX10_colony_18 rfl (lv_at hl 0 rfl) ?_
  refine lv_iconst (v := 0) hx hb dX10_colony_19 (by decide) ?_
  refine va_put (D := G) (ci := 10) (v := .int 0) (ty := .int) (C := RX10) (T := TX10) (N := 46) hx hb hts iG_X10 tyX10 tyX10_ok nmX10 hown hK hP hD hS 0 rfl rfl 12 (by decide) (hts _ w_1204) (fun _ h9 => h9) rfl (by decide +kernel) rfl rfl (Nat.le_of_ble_eq_true rfl) dX10_colony_20 (fun H locs hP hD hS => ?_)
  have hP : va_P G vwCl [(h0, oX10 b 0 0 0 0 0 0 0 0 (-1) 0 0 0 0 0 0 0 0 0), (b 14, .inl (cI, 149, .inl (fun _ => 0))), (b 1, .inl (cI, 149, .inl (fun _ => 0)))] H := hP
  have hD : va_D A [(h0, oX10 b 0 0 0 0 0 0 0 0 (-1) 0 0 0 0 0 0 0 0 0), (b 14, .inl (cI, 149, .inl (fun _ => 0))), (b 1, .inl (cI, 149, .inl (fun _ => 0)))] := hD
  refine lv_aload_n hx hb dX10_colony_23 rfl (lv_at hl 0 rfl) ?_
  refine lv_iconst (v := (-1)) hx hb dX10_colony_24 (by decide) ?_
  refine va_put (D := G) (ci := 10) (v := .int (-1)) (ty := .int) (C := RX10) (T := TX10) (N := 46) hx hb hts iG_X10 tyX10 tyX10_ok nmX10 hown hK hP hD hS 0 rfl rfl 13 (by decide) (hts _ w_1205) (fun _ h9 => h9) rfl (by decide +kernel) rfl rfl (Nat.le_of_ble_eq_true rfl) dX10_colony_25 (fun H locs hP hD hS => ?_)
  have hP : va_P G vwCl [(h0, oX10 b 0 0 0 0 0 0 0 0 (-1) 0 0 0 0 0 0 0 0 0), (b 14, .inl (cI, 149, .inl (fun _ => 0))), (b 1, .inl (cI, 149, .inl (fun _ => 0)))] H := hP
  have hD : va_D A [(h0, oX10 b 0 0 0 0 0 0 0 0 (-1) 0 0 0 0 0 0 0 0 0), (b 14, .inl (cI, 149, .inl (fun _ => 0))), (b 1, .inl (cI, 149, .inl (fun _ => 0)))] := hD
  refine lv_iconst (v := 0) hx hb dX10_colony_28 (by decide) ?_
  refine lv_istore_n (lv' := [(1, .int 0), (0, .ref h0)]) hx hb dX10_colony_29 rfl hl (by decide) rfl (fun ls hl => ?_)
  have lp1 : ∀ (n2 : Nat) (x3 : Int32), 0 ≤ x3.toInt → x3.toInt ≤ 149 → 149 - x3.toInt < (n2 : Int) → ∀ (H : Heap) (locs : List Loc), va_P G vwCl [(h0, oX10 b 0 0 0 0 0 0 0 0 (-1) 0 0 0 0 0 0 0 0 0), (b 14, .inl (cI, 149, .inl (fun _ => 0))), (b 1, .inl (cI, 149, .inl (fun _ => 0)))] H → va_D A [(h0, oX10 b 0 0 0 0 0 0 0 0 (-1) 0 0 0 0 0 0 0 0 0), (b 14, .inl (cI, 149, .inl (fun _ => 0))), (b 1, .inl (cI, 149, .inl (fun _ => 0)))] → va_S A s.heap H locs → ∀ (ls : Array Slot), lv_has ls 2 [(1, .int x3), (0, .ref h0)] → W p l e ({ frames := 2, cells := 0, slots := 0, locals := 42 } : Room) s m ([.ref h0] : List Value).toArray below meth c H locs 0 0 Q (F0 m 30 ls []) := by
    intro n2
    induction n2 with
    | zero =>
      intro x3 f3_0 f3_1 f3_2
      exact absurd f3_2 (by omega)
    | succ n2 ih4 =>
      intro x3 f3_0 f3_1 f3_2 H locs hP hD hS ls hl
      refine lv_iload_n hx hb dX10_colony_30 rfl (lv_at hl 0 rfl) ?_
      refine lv_sipush (v := 149) hx hb dX10_colony_31 (by decide) ?_
      refine lv_icmp_ge (tgt := 50) hx hb dX10_colony_34 (by decide) (fun c5 => ?_) (fun c5 => ?_)
      · have c5 := i_le ki_149 rfl c5
        refine lv_aload_n hx hb dX10_colony_50 rfl (lv_at hl 1 rfl) ?_
        refine k_v (wc := [(h0, oX10 b 0 0 0 0 0 0 0 0 (-1) 0 0 0 0 0 0 0 0 0)]) (wr := [(b 14, .inl (cI, 149, .inl (fun _ => 0))), (b 1, .inl (cI, 149, .inl (fun _ => 0)))]) hP hD hS hA [0] [1, 2] rfl rfl rfl (by decide) (va_runV (As := []) (rest := []) ⟨hx, hb, hml, hown, hts⟩ (f_X10_advance l G cI cJ cZ cB cQ _ h0 b) (cwV 0 hts (gV w_1359 w_1361 wp_83 w_11 w_1362) rfl rfl rfl ⟨rfl, hd_X10_advance⟩ ⟨Nat.le_of_ble_eq_true rfl, Nat.le_of_ble_eq_true rfl⟩) (mV hK hZ hP hD [0] rfl rfl [] 0 10 rfl rfl) rfl rfl hl.1 rfl (lv_room (Nat.le_of_ble_eq_true rfl)) dX10_colony_51 ⟨Nat.le_of_ble_eq_true rfl, Nat.le_of_ble_eq_true rfl⟩) (fun u7 H locs hw8 hP hD hS => ?_)
        have hP : va_P G vwCl [(b 14, .inl (cI, 149, .inl (fun _ => 0))), (b 1, .inl (cI, 149, .inl (fun _ => 0))), (h0, oX10 b 0 0 0 0 0 0 0 0 (-1) 0 0 0 0 0 0 0 0 0)] H := hP
        have hD : va_D A [(b 14, .inl (cI, 149, .inl (fun _ => 0))), (b 1, .inl (cI, 149, .inl (fun _ => 0))), (h0, oX10 b 0 0 0 0 0 0 0 0 (-1) 0 0 0 0 0 0 0 0 0)] := hD
        refine lv_aload_n hx hb dX10_colony_54 rfl (lv_at hl 1 rfl) ?_
        refine k_i (wc := [(h0, oX10 b 0 0 0 0 0 0 0 0 (-1) 0 0 0 0 0 0 0 0 0)]) (wr := [(b 14, .inl (cI, 149, .inl (fun _ => 0))), (b 1, .inl (cI, 149, .inl (fun _ => 0)))]) hP hD hS hA [2] [0, 1] rfl rfl rfl (by decide) (va_runV (As := []) (rest := []) ⟨hx, hb, hml, hown, hts⟩ (f_X10_good l G cI cJ cZ cB cQ _ h0 b 0 0) (cwV 0 hts (gV w_1373 w_1375 wp_85 w_11 w_1376) rfl rfl rfl ⟨rfl, hd_X10_good⟩ ⟨Nat.le_of_ble_eq_true rfl, Nat.le_of_ble_eq_true rfl⟩) (mV hK hZ hP hD [2] rfl rfl [] 2 10 rfl rfl) rfl rfl hl.1 rfl (lv_room (Nat.le_of_ble_eq_true rfl)) dX10_colony_55 ⟨Nat.le_of_ble_eq_true rfl, Nat.le_of_ble_eq_true rfl⟩) (fun r9 u10 H locs hw11 hP hD hS => ?_)
        try dsimp only at hw11
        have hP : va_P G vwCl [(b 14, .inl (cI, 149, .inl (fun _ => 0))), (b 1, .inl (cI, 149, .inl (fun _ => 0))), (h0, oX10 b 0 0 0 0 0 0 0 0 (-1) 0 0 0 0 0 0 0 0 0)] H := hP
        have hD : va_D A [(b 14, .inl (cI, 149, .inl (fun _ => 0))), (b 1, .inl (cI, 149, .inl (fun _ => 0))), (h0, oX10 b 0 0 0 0 0 0 0 0 (-1) 0 0 0 0 0 0 0 0 0)] := hD
        obtain rfl : r9 = 1 := hw11
        refine lv_if_eq (tgt := 75) hx hb dX10_colony_58 (by decide) (fun c12 => absurd c12 (by decide)) (fun c12 => ?_)
        refine lv_aload_n hx hb dX10_colony_61 rfl (lv_at hl 1 rfl) ?_
        refine va_get (D := G) (ci := 10) (v := .int 0) (C := RX10) (T := TX10) (N := 46) hx hb hts iG_X10 hown hK hP 2 rfl rfl 10 (by decide) (hts _ w_1202) (fun _ h9 => h9) rfl dX10_colony_62 ?_
        refine lv_if_eq (tgt := 75) hx hb dX10_colony_65 (by decide) (fun c13 => ?_) (fun c13 => absurd (by decide) c13)
        refine lv_aload_n hx hb dX10_colony_75 rfl (lv_at hl 1 rfl) ?_
        refine k_i (wc := [(h0, oX10 b 0 0 0 0 0 0 0 0 (-1) 0 0 0 0 0 0 0 0 0)]) (wr := [(b 14, .inl (cI, 149, .inl (fun _ => 0))), (b 1, .inl (cI, 149, .inl (fun _ => 0)))]) hP hD hS hA [2] [0, 1] rfl rfl rfl (by decide) (va_runV (As := []) (rest := []) ⟨hx, hb, hml, hown, hts⟩ (f_X10_good l G cI cJ cZ cB cQ _ h0 b 0 0) (cwV 0 hts (gV w_1373 w_1375 wp_85 w_11 w_1376) rfl rfl rfl ⟨rfl, hd_X10_good⟩ ⟨Nat.le_of_ble_eq_true rfl, Nat.le_of_ble_eq_true rfl⟩) (mV hK hZ hP hD [2] rfl rfl [] 2 10 rfl rfl) rfl rfl hl.1 rfl (lv_room (Nat.le_of_ble_eq_true rfl)) dX10_colony_76 ⟨Nat.le_of_ble_eq_true rfl, Nat.le_of_ble_eq_true rfl⟩) (fun r14 u15 H locs hw16 hP hD hS => ?_)
        try dsimp only at hw16
        have hP : va_P G vwCl [(b 14, .inl (cI, 149, .inl (fun _ => 0))), (b 1, .inl (cI, 149, .inl (fun _ => 0))), (h0, oX10 b 0 0 0 0 0 0 0 0 (-1) 0 0 0 0 0 0 0 0 0)] H := hP
        have hD : va_D A [(b 14, .inl (cI, 149, .inl (fun _ => 0))), (b 1, .inl (cI, 149, .inl (fun _ => 0))), (h0, oX10 b 0 0 0 0 0 0 0 0 (-1) 0 0 0 0 0 0 0 0 0)] := hD
        obtain rfl : r14 = 1 := hw16
        refine lv_if_ne (tgt := 85) hx hb dX10_colony_79 (by decide) (fun c17 => ?_) (fun c17 => absurd c17 (by decide))
        refine lv_iconst (v := 0) hx hb dX10_colony_85 (by decide) ?_
        refine lv_istore_n (lv' := [(1, .int 0), (0, .ref h0)]) hx hb dX10_colony_86 rfl hl (by decide) rfl (fun ls hl => ?_)
        have lp18 : ∀ (n19 : Nat) (x20 : Int32), 0 ≤ x20.toInt → x20.toInt ≤ 149 → 149 - x20.toInt < (n19 : Int) → ∀ (H : Heap) (locs : List Loc), va_P G vwCl [(b 14, .inl (cI, 149, .inl (fun _ => 0))), (b 1, .inl (cI, 149, .inl (fun _ => 0))), (h0, oX10 b 0 0 0 0 0 0 0 0 (-1) 0 0 0 0 0 0 0 0 0)] H → va_D A [(b 14, .inl (cI, 149, .inl (fun _ => 0))), (b 1, .inl (cI, 149, .inl (fun _ => 0))), (h0, oX10 b 0 0 0 0 0 0 0 0 (-1) 0 0 0 0 0 0 0 0 0)] → va_S A s.heap H locs → ∀ (ls : Array Slot), lv_has ls 2 [(1, .int x20), (0, .ref h0)] → W p l e ({ frames := 2, cells := 0, slots := 0, locals := 42 } : Room) s m ([.ref h0] : List Value).toArray below meth c H locs 0 0 Q (F0 m 87 ls []) := by
          intro n19
          induction n19 with
          | zero =>
            intro x20 f20_0 f20_1 f20_2
            exact absurd f20_2 (by omega)
          | succ n19 ih21 =>
            intro x20 f20_0 f20_1 f20_2 H locs hP hD hS ls hl
            refine lv_iload_n hx hb dX10_colony_87 rfl (lv_at hl 0 rfl) ?_
            refine lv_sipush (v := 149) hx hb dX10_colony_88 (by decide) ?_
            refine lv_icmp_ge (tgt := 112) hx hb dX10_colony_91 (by decide) (fun c22 => ?_) (fun c22 => ?_)
            · have c22 := i_le ki_149 rfl c22
              refine lv_aload_n hx hb dX10_colony_112 rfl (lv_at hl 1 rfl) ?_
              refine va_get (D := G) (ci := 10) (v := .ref (b 1)) (C := RX10) (T := TX10) (N := 46) hx hb hts iG_X10 hown hK hP 2 rfl rfl 1 (by decide) (hts _ w_1193) (fun _ h9 => h9) rfl dX10_colony_113 ?_
              refine lv_bipush (v := 9) hx hb dX10_colony_116 (by decide) ?_
              refine va_iald hx hb hK hP 1 0 rfl rfl (ix_in ki_9 (by omega) (by omega)) dX10_colony_118 ?_
              refine W.eq (g2 := F0 m 119 ls [.int 0]) rfl ?_
              exact hret _ _ _ _ 0 () (hP.sub (ws' := [(h0, oX10 b 0 0 0 0 0 0 0 0 (-1) 0 0 0 0 0 0 0 0 0), (b 14, .inl (cI, 149, .inl (fun _ => 0))), (b 1, .inl (cI, 149, .inl (fun _ => 0)))]) [2, 0, 1] rfl) (hD.sub (ws' := [(h0, oX10 b 0 0 0 0 0 0 0 0 (-1) 0 0 0 0 0 0 0 0 0), (b 14, .inl (cI, 149, .inl (fun _ => 0))), (b 1, .inl (cI, 149, .inl (fun _ => 0)))]) [2, 0, 1] rfl rfl) hS dX10_colony_119 rfl
            · have c22 := i_nle ki_149 rfl c22
              refine lv_aload_n hx hb dX10_colony_94 rfl (lv_at hl 1 rfl) ?_
              refine va_get (D := G) (ci := 10) (v := .ref (b 1)) (C := RX10) (T := TX10) (N := 46) hx hb hts iG_X10 hown hK hP 2 rfl rfl 1 (by decide) (hts _ w_1193) (fun _ h9 => h9) rfl dX10_colony_95 ?_
              refine lv_iload_n hx hb dX10_colony_98 rfl (lv_at hl 0 rfl) ?_
              refine lv_aload_n hx hb dX10_colony_99 rfl (lv_at hl 1 rfl) ?_
              refine va_get (D := G) (ci := 10) (v := .ref (b 14)) (C := RX10) (T := TX10) (N := 46) hx hb hts iG_X10 hown hK hP 2 rfl rfl 14 (by decide) (hts _ w_1206) (fun _ h9 => h9) rfl dX10_colony_100 ?_
              refine lv_iload_n hx hb dX10_colony_103 rfl (lv_at hl 0 rfl) ?_
              refine va_iald hx hb hK hP 0 0 rfl rfl (ix_in rfl (by omega) (by omega)) dX10_colony_104 ?_
              refine W.eq (g2 := F0 m 105 ls [.int 0, .int x20, .ref (b 1)]) rfl ?_
              refine va_iast hx hb hK hP hD hS 1 0 rfl rfl (ix_in rfl (by omega) (by omega)) dX10_colony_105 (fun H locs hP hD hS => ?_)
              rw [upd_z] at hP hD
              have hP : va_P G vwCl [(b 14, .inl (cI, 149, .inl (fun _ => 0))), (b 1, .inl (cI, 149, .inl (fun _ => 0))), (h0, oX10 b 0 0 0 0 0 0 0 0 (-1) 0 0 0 0 0 0 0 0 0)] H := hP
              have hD : va_D A [(b 14, .inl (cI, 149, .inl (fun _ => 0))), (b 1, .inl (cI, 149, .inl (fun _ => 0))), (h0, oX10 b 0 0 0 0 0 0 0 0 (-1) 0 0 0 0 0 0 0 0 0)] := hD
              obtain ⟨v23, ev23⟩ : ∃ y : Int32, y = x20 + 1 := ⟨_, rfl⟩
              have tv23 : v23.toInt = x20.toInt + 1 := ti_add rfl ki_1 ev23 (by omega) (by omega)
              refine lv_iinc (v := v23) (lv' := [(1, .int v23), (0, .ref h0)]) hx hb dX10_colony_106 hl (k := 0) rfl (by rw [ev23]; rfl) (by decide) rfl (fun ls hl => ?_)
              refine lv_goto (tgt := 87) hx hb dX10_colony_109 (by decide) ?_
              exact ih21 v23 (by omega) (by omega) (by omega) _ _ hP hD hS ls (lv_sub hl [0, 1] rfl)
        exact lp18 150 0 (by rw [ki_0]; decide) (by rw [ki_0]; decide) (by rw [ki_0]; decide) _ _ hP hD hS ls (lv_sub hl [0, 1] rfl)
      · have c5 := i_nle ki_149 rfl c5
        refine lv_aload_n hx hb dX10_colony_37 rfl (lv_at hl 1 rfl) ?_
        refine va_get (D := G) (ci := 10) (v := .ref (b 14)) (C := RX10) (T := TX10) (N := 46) hx hb hts iG_X10 hown hK hP 0 rfl rfl 14 (by decide) (hts _ w_1206) (fun _ h9 => h9) rfl dX10_colony_38 ?_
        refine lv_iload_n hx hb dX10_colony_41 rfl (lv_at hl 0 rfl) ?_
        refine lv_iconst (v := 0) hx hb dX10_colony_42 (by decide) ?_
        refine va_iast hx hb hK hP hD hS 1 0 rfl rfl (ix_in rfl (by omega) (by omega)) dX10_colony_43 (fun H locs hP hD hS => ?_)
        rw [upd_z] at hP hD
        have hP : va_P G vwCl [(h0, oX10 b 0 0 0 0 0 0 0 0 (-1) 0 0 0 0 0 0 0 0 0), (b 14, .inl (cI, 149, .inl (fun _ => 0))), (b 1, .inl (cI, 149, .inl (fun _ => 0)))] H := hP
        have hD : va_D A [(h0, oX10 b 0 0 0 0 0 0 0 0 (-1) 0 0 0 0 0 0 0 0 0), (b 14, .inl (cI, 149, .inl (fun _ => 0))), (b 1, .inl (cI, 149, .inl (fun _ => 0)))] := hD
        obtain ⟨v24, ev24⟩ : ∃ y : Int32, y = x3 + 1 := ⟨_, rfl⟩
        have tv24 : v24.toInt = x3.toInt + 1 := ti_add rfl ki_1 ev24 (by omega) (by omega)
        refine lv_iinc (v := v24) (lv' := [(1, .int v24), (0, .ref h0)]) hx hb dX10_colony_44 hl (k := 0) rfl (by rw [ev24]; rfl) (by decide) rfl (fun ls hl => ?_)
        refine lv_goto (tgt := 30) hx hb dX10_colony_47 (by decide) ?_
        exact ih4 v24 (by omega) (by omega) (by omega) _ _ hP hD hS ls (lv_sub hl [0, 1] rfl)
  exact lp1 150 0 (by rw [ki_0]; decide) (by rw [ki_0]; decide) (by rw [ki_0]; decide) _ _ hP hD hS ls (lv_sub hl [0, 1] rfl)
set_option maxHeartbeats 4000000 in
set_option maxRecDepth 100000 in
theorem f_X10_image (l : Launch) (G : va_G) (cI cJ cZ cB cQ : ClassId) (sz : Nat) (h0 : Nat) (b : Nat → Nat) (p0 : Int32) : CI l yX10_image (wl_ yX10_image cX10_image 3 (some .int)) ({ frames := 1, cells := 0, slots := 0, locals := 25 } : Room) G (TY cI cJ cZ cB cQ) [.ref h0, .int p0] [(h0, oX10 b 0 0 0 0 0 0 0 0 (-1) 0 0 0 0 0 0 0 0 0), (b 1, .inl (cI, 149, .inl (fun _ => 0))), (b 2, .inl (cI, 447, .inl (fun _ => 0))), (b 3, .inl (cZ, 3, .inl (fun _ => 0)))] sz (fun (r : Int32) (u : (Nat → Int32)) => (r = if 0 ≤ p0.toInt ∧ p0.toInt ≤ 2 then 0 else -2)) (fun u : (Nat → Int32) => [(h0, oX10 b 0 0 0 0 0 0 0 0 (-1) 0 0 0 0 0 0 0 0 0), (b 1, .inl (cI, 149, .inl (fun _ => 0))), (b 2, .inl (cI, 447, .inl (fun _ => 0))), (b 3, .inl (cZ, 3, .inl u))]) 0 0 := by
  refine CI.go (cc := cX10_image) (maxL := 3) (ret := (some .int)) (by decide) rfl (Nat.le_of_ble_eq_true rfl) ?_
  intro p e s m below meth c A ls Q hBd hret
  obtain ⟨hx, hb, hr, hml, hts, hown, hlk, hnm, hP, hK, hD, hA, hZ, hl⟩ := hBd
  have hown : s.vm.findClass RX10 = some m.cls := hown
  have hl : lv_has ls 3 [(0, .ref h0), (1, .int p0)] := hl
  have hS : va_S A s.heap s.heap [] := va_S.rf
  refine lv_iload_n hx hb dX10_image_0 rfl (lv_at hl 1 rfl) ?_
  obtain ⟨v1, ev1⟩ : ∃ y : Int64, p0.toInt64 = y := ⟨_, rfl⟩
  have tv1 : v1.toInt = p0.toInt := ti_wide rfl ev1
  refine lv_i2l (v := v1) hx hb dX10_image_1 ev1 ?_
  refine lv_lconst (v := 0) hx hb dX10_image_2 (by decide) ?_
  refine lv_ldc2 (v := 2) hx hb hown (hts _ w_1335) dX10_image_3 ?_
  refine k_i (wc := []) (wr := [(h0, oX10 b 0 0 0 0 0 0 0 0 (-1) 0 0 0 0 0 0 0 0 0), (b 1, .inl (cI, 149, .inl (fun _ => 0))), (b 2, .inl (cI, 447, .inl (fun _ => 0))), (b 3, .inl (cZ, 3, .inl (fun _ => 0)))]) hP hD hS hA [] [0, 1, 2, 3] rfl rfl rfl (by decide) (va_runS (As := [.long v1, .long 0, .long 2]) (rest := []) ⟨hx, hb, hml, hown, hts⟩ (f_X10_in l G cI cJ cZ cB cQ _ v1 0 2 p0.toInt 0 2 tv1 kl_0 kl_2) (va_cwS 3 hts (gS w_1336 w_1337 w_11 w_1338) rfl rfl rfl hd_X10_in ⟨Nat.le_of_ble_eq_true rfl, Nat.le_of_ble_eq_true rfl⟩) (mS hK hZ hP hD [] rfl rfl [.long v1, .long 0, .long 2]) rfl rfl hl.1 rfl (lv_room (Nat.le_of_ble_eq_true rfl)) dX10_image_6 ⟨Nat.le_of_ble_eq_true rfl, Nat.le_of_ble_eq_true rfl⟩) (fun r2 u3 H locs hw4 hP hD hS => ?_)
  try dsimp only at hw4
  have hP : va_P G vwCl [(h0, oX10 b 0 0 0 0 0 0 0 0 (-1) 0 0 0 0 0 0 0 0 0), (b 1, .inl (cI, 149, .inl (fun _ => 0))), (b 2, .inl (cI, 447, .inl (fun _ => 0))), (b 3, .inl (cZ, 3, .inl (fun _ => 0)))] H := hP
  have hD : va_D A [(h0, oX10 b 0 0 0 0 0 0 0 0 (-1) 0 0 0 0 0 0 0 0 0), (b 1, .inl (cI, 149, .inl (fun _ => 0))), (b 2, .inl (cI, 447, .inl (fun _ => 0))), (b 3, .inl (cZ, 3, .inl (fun _ => 0)))] := hD
  rcases hw4 with ⟨rfl, a5, b6⟩ | ⟨rfl, a5⟩
  · skip
    refine lv_if_ne (tgt := 15) hx hb dX10_image_9 (by decide) (fun c7 => ?_) (fun c7 => absurd c7 (by decide))
    refine lv_iconst (v := 0) hx hb dX10_image_15 (by decide) ?_
    refine lv_istore_n (lv' := [(2, .int 0), (0, .ref h0), (1, .int p0)]) hx hb dX10_image_16 rfl hl (by decide) rfl (fun ls hl => ?_)
    have lp8 : ∀ (n9 : Nat) (x10 : Int32), 0 ≤ x10.toInt → x10.toInt ≤ 149 → 149 - x10.toInt < (n9 : Int) → ∀ (H : Heap) (locs : List Loc), va_P G vwCl [(h0, oX10 b 0 0 0 0 0 0 0 0 (-1) 0 0 0 0 0 0 0 0 0), (b 1, .inl (cI, 149, .inl (fun _ => 0))), (b 2, .inl (cI, 447, .inl (fun _ => 0))), (b 3, .inl (cZ, 3, .inl (fun _ => 0)))] H → va_D A [(h0, oX10 b 0 0 0 0 0 0 0 0 (-1) 0 0 0 0 0 0 0 0 0), (b 1, .inl (cI, 149, .inl (fun _ => 0))), (b 2, .inl (cI, 447, .inl (fun _ => 0))), (b 3, .inl (cZ, 3, .inl (fun _ => 0)))] → va_S A s.heap H locs → ∀ (ls : Array Slot), lv_has ls 3 [(2, .int x10), (0, .ref h0), (1, .int p0)] → W p l e ({ frames := 1, cells := 0, slots := 0, locals := 25 } : Room) s m ([.ref h0, .int p0] : List Value).toArray below meth c H locs 0 0 Q (F0 m 17 ls []) := by
      intro n9
      induction n9 with
      | zero =>
        intro x10 f10_0 f10_1 f10_2
        exact absurd f10_2 (by omega)
      | succ n9 ih11 =>
        intro x10 f10_0 f10_1 f10_2 H locs hP hD hS ls hl
        refine lv_iload_n hx hb dX10_image_17 rfl (lv_at hl 0 rfl) ?_
        refine lv_sipush (v := 149) hx hb dX10_image_18 (by decide) ?_
        refine lv_icmp_ge (tgt := 48) hx hb dX10_image_21 (by decide) (fun c12 => ?_) (fun c12 => ?_)
        · have c12 := i_le ki_149 rfl c12
          refine lv_aload_n hx hb dX10_image_48 rfl (lv_at hl 1 rfl) ?_
          refine va_get (D := G) (ci := 10) (v := .ref (b 3)) (C := RX10) (T := TX10) (N := 46) hx hb hts iG_X10 hown hK hP 0 rfl rfl 3 (by decide) (hts _ w_1195) (fun _ h9 => h9) rfl dX10_image_49 ?_
          refine lv_iload_n hx hb dX10_image_52 rfl (lv_at hl 2 rfl) ?_
          refine lv_iconst (v := 1) hx hb dX10_image_53 (by decide) ?_
          refine va_zast hx hb hK hP hD hS 3 2 rfl rfl (ix_in rfl (by omega) (by omega)) dX10_image_54 (fun H locs hP hD hS => ?_)
          generalize upd (fun _ => 0) p0.toNatClampNeg (vp_nar .boolean 1) = f13 at hP hD
          have hP : va_P G vwCl [(h0, oX10 b 0 0 0 0 0 0 0 0 (-1) 0 0 0 0 0 0 0 0 0), (b 1, .inl (cI, 149, .inl (fun _ => 0))), (b 2, .inl (cI, 447, .inl (fun _ => 0))), (b 3, .inl (cZ, 3, .inl f13))] H := hP
          have hD : va_D A [(h0, oX10 b 0 0 0 0 0 0 0 0 (-1) 0 0 0 0 0 0 0 0 0), (b 1, .inl (cI, 149, .inl (fun _ => 0))), (b 2, .inl (cI, 447, .inl (fun _ => 0))), (b 3, .inl (cZ, 3, .inl f13))] := hD
          refine lv_iconst (v := 0) hx hb dX10_image_55 (by decide) ?_
          exact hret _ _ _ _ 0 f13 hP hD hS dX10_image_56 (by (repeat' split) <;> first | exact rfl | (exfalso; omega))
        · have c12 := i_nle ki_149 rfl c12
          refine lv_aload_n hx hb dX10_image_24 rfl (lv_at hl 1 rfl) ?_
          refine va_get (D := G) (ci := 10) (v := .ref (b 2)) (C := RX10) (T := TX10) (N := 46) hx hb hts iG_X10 hown hK hP 0 rfl rfl 2 (by decide) (hts _ w_1194) (fun _ h9 => h9) rfl dX10_image_25 ?_
          refine lv_sipush (v := 149) hx hb dX10_image_28 (by decide) ?_
          refine lv_iload_n hx hb dX10_image_31 rfl (lv_at hl 2 rfl) ?_
          refine lv_imul hx hb dX10_image_32 ?_
          refine lv_topi (fun v14 ev14 => ?_)
          have tv14 : v14.toInt = 149 * p0.toInt := ti_mul ki_149 rfl ev14 (by omega) (by omega)
          refine lv_iload_n hx hb dX10_image_33 rfl (lv_at hl 0 rfl) ?_
          refine lv_iadd hx hb dX10_image_34 ?_
          refine lv_topi (fun v15 ev15 => ?_)
          have tv15 : v15.toInt = 149 * p0.toInt + x10.toInt := ti_add tv14 rfl ev15 (by omega) (by omega)
          refine lv_aload_n hx hb dX10_image_35 rfl (lv_at hl 1 rfl) ?_
          refine va_get (D := G) (ci := 10) (v := .ref (b 1)) (C := RX10) (T := TX10) (N := 46) hx hb hts iG_X10 hown hK hP 0 rfl rfl 1 (by decide) (hts _ w_1193) (fun _ h9 => h9) rfl dX10_image_36 ?_
          refine lv_iload_n hx hb dX10_image_39 rfl (lv_at hl 0 rfl) ?_
          refine va_iald hx hb hK hP 1 0 rfl rfl (ix_in rfl (by omega) (by omega)) dX10_image_40 ?_
          refine W.eq (g2 := F0 m 41 ls [.int 0, .int v15, .ref (b 2)]) rfl ?_
          refine va_iast hx hb hK hP hD hS 2 0 rfl rfl (ix_in tv15 (by omega) (by omega)) dX10_image_41 (fun H locs hP hD hS => ?_)
          rw [upd_z] at hP hD
          have hP : va_P G vwCl [(h0, oX10 b 0 0 0 0 0 0 0 0 (-1) 0 0 0 0 0 0 0 0 0), (b 1, .inl (cI, 149, .inl (fun _ => 0))), (b 2, .inl (cI, 447, .inl (fun _ => 0))), (b 3, .inl (cZ, 3, .inl (fun _ => 0)))] H := hP
          have hD : va_D A [(h0, oX10 b 0 0 0 0 0 0 0 0 (-1) 0 0 0 0 0 0 0 0 0), (b 1, .inl (cI, 149, .inl (fun _ => 0))), (b 2, .inl (cI, 447, .inl (fun _ => 0))), (b 3, .inl (cZ, 3, .inl (fun _ => 0)))] := hD
          obtain ⟨v16, ev16⟩ : ∃ y : Int32, y = x10 + 1 := ⟨_, rfl⟩
          have tv16 : v16.toInt = x10.toInt + 1 := ti_add rfl ki_1 ev16 (by omega) (by omega)
          refine lv_iinc (v := v16) (lv' := [(2, .int v16), (0, .ref h0), (1, .int p0)]) hx hb dX10_image_42 hl (k := 0) rfl (by rw [ev16]; rfl) (by decide) rfl (fun ls hl => ?_)
          refine lv_goto (tgt := 17) hx hb dX10_image_45 (by decide) ?_
          exact ih11 v16 (by omega) (by omega) (by omega) _ _ hP hD hS ls (lv_sub hl [0, 1, 2] rfl)
    exact lp8 150 0 (by rw [ki_0]; decide) (by rw [ki_0]; decide) (by rw [ki_0]; decide) _ _ hP hD hS ls (lv_sub hl [0, 1, 2] rfl)
  · skip
    refine lv_if_ne (tgt := 15) hx hb dX10_image_9 (by decide) (fun c17 => absurd (by decide) c17) (fun c17 => ?_)
    refine lv_bipush (v := (-2)) hx hb dX10_image_12 (by decide) ?_
    exact hret _ _ _ _ (-2) (fun _ => 0) hP hD hS dX10_image_14 (by (repeat' split) <;> first | exact rfl | (exfalso; omega))
set_option maxHeartbeats 4000000 in
set_option maxRecDepth 100000 in
theorem f_X10_back (l : Launch) (G : va_G) (cI cJ cZ cB cQ : ClassId) (sz : Nat) (h0 : Nat) (b : Nat → Nat) (p0 : Int32) : CI l yX10_back (wl_ yX10_back cX10_back 3 (some .int)) ({ frames := 1, cells := 0, slots := 0, locals := 25 } : Room) G (TY cI cJ cZ cB cQ) [.ref h0, .int p0] [(h0, oX10 b 0 0 0 0 0 0 0 0 (-1) 0 0 0 0 0 0 0 0 0), (b 1, .inl (cI, 149, .inl (fun _ => 0))), (b 2, .inl (cI, 447, .inl (fun _ => 0))), (b 3, .inl (cZ, 3, .inl (fun _ => 0)))] sz (fun (r : Int32) (u : Unit) => (r = if 0 ≤ p0.toInt ∧ p0.toInt ≤ 2 then -6 else -2)) (fun _ : Unit => [(h0, oX10 b 0 0 0 0 0 0 0 0 (-1) 0 0 0 0 0 0 0 0 0), (b 1, .inl (cI, 149, .inl (fun _ => 0))), (b 2, .inl (cI, 447, .inl (fun _ => 0))), (b 3, .inl (cZ, 3, .inl (fun _ => 0)))]) 0 0 := by
  refine CI.go (cc := cX10_back) (maxL := 3) (ret := (some .int)) (by decide) rfl (Nat.le_of_ble_eq_true rfl) ?_
  intro p e s m below meth c A ls Q hBd hret
  obtain ⟨hx, hb, hr, hml, hts, hown, hlk, hnm, hP, hK, hD, hA, hZ, hl⟩ := hBd
  have hown : s.vm.findClass RX10 = some m.cls := hown
  have hl : lv_has ls 3 [(0, .ref h0), (1, .int p0)] := hl
  have hS : va_S A s.heap s.heap [] := va_S.rf
  refine lv_iload_n hx hb dX10_back_0 rfl (lv_at hl 1 rfl) ?_
  obtain ⟨v1, ev1⟩ : ∃ y : Int64, p0.toInt64 = y := ⟨_, rfl⟩
  have tv1 : v1.toInt = p0.toInt := ti_wide rfl ev1
  refine lv_i2l (v := v1) hx hb dX10_back_1 ev1 ?_
  refine lv_lconst (v := 0) hx hb dX10_back_2 (by decide) ?_
  refine lv_ldc2 (v := 2) hx hb hown (hts _ w_1335) dX10_back_3 ?_
  refine k_i (wc := []) (wr := [(h0, oX10 b 0 0 0 0 0 0 0 0 (-1) 0 0 0 0 0 0 0 0 0), (b 1, .inl (cI, 149, .inl (fun _ => 0))), (b 2, .inl (cI, 447, .inl (fun _ => 0))), (b 3, .inl (cZ, 3, .inl (fun _ => 0)))]) hP hD hS hA [] [0, 1, 2, 3] rfl rfl rfl (by decide) (va_runS (As := [.long v1, .long 0, .long 2]) (rest := []) ⟨hx, hb, hml, hown, hts⟩ (f_X10_in l G cI cJ cZ cB cQ _ v1 0 2 p0.toInt 0 2 tv1 kl_0 kl_2) (va_cwS 3 hts (gS w_1336 w_1337 w_11 w_1338) rfl rfl rfl hd_X10_in ⟨Nat.le_of_ble_eq_true rfl, Nat.le_of_ble_eq_true rfl⟩) (mS hK hZ hP hD [] rfl rfl [.long v1, .long 0, .long 2]) rfl rfl hl.1 rfl (lv_room (Nat.le_of_ble_eq_true rfl)) dX10_back_6 ⟨Nat.le_of_ble_eq_true rfl, Nat.le_of_ble_eq_true rfl⟩) (fun r2 u3 H locs hw4 hP hD hS => ?_)
  try dsimp only at hw4
  have hP : va_P G vwCl [(h0, oX10 b 0 0 0 0 0 0 0 0 (-1) 0 0 0 0 0 0 0 0 0), (b 1, .inl (cI, 149, .inl (fun _ => 0))), (b 2, .inl (cI, 447, .inl (fun _ => 0))), (b 3, .inl (cZ, 3, .inl (fun _ => 0)))] H := hP
  have hD : va_D A [(h0, oX10 b 0 0 0 0 0 0 0 0 (-1) 0 0 0 0 0 0 0 0 0), (b 1, .inl (cI, 149, .inl (fun _ => 0))), (b 2, .inl (cI, 447, .inl (fun _ => 0))), (b 3, .inl (cZ, 3, .inl (fun _ => 0)))] := hD
  rcases hw4 with ⟨rfl, a5, b6⟩ | ⟨rfl, a5⟩
  · skip
    refine lv_if_ne (tgt := 15) hx hb dX10_back_9 (by decide) (fun c7 => ?_) (fun c7 => absurd c7 (by decide))
    refine lv_aload_n hx hb dX10_back_15 rfl (lv_at hl 0 rfl) ?_
    refine va_get (D := G) (ci := 10) (v := .ref (b 3)) (C := RX10) (T := TX10) (N := 46) hx hb hts iG_X10 hown hK hP 0 rfl rfl 3 (by decide) (hts _ w_1195) (fun _ h9 => h9) rfl dX10_back_16 ?_
    refine lv_iload_n hx hb dX10_back_19 rfl (lv_at hl 1 rfl) ?_
    refine va_zald hx hb hK hP 3 2 rfl rfl (ix_in rfl (by omega) (by omega)) dX10_back_20 ?_
    refine W.eq (g2 := F0 m 21 ls [.int 0]) rfl ?_
    refine lv_if_ne (tgt := 27) hx hb dX10_back_21 (by decide) (fun c8 => absurd (by decide) c8) (fun c8 => ?_)
    refine lv_bipush (v := (-6)) hx hb dX10_back_24 (by decide) ?_
    exact hret _ _ _ _ (-6) () hP hD hS dX10_back_26 (by (repeat' split) <;> first | exact rfl | (exfalso; omega))
  · skip
    refine lv_if_ne (tgt := 15) hx hb dX10_back_9 (by decide) (fun c9 => absurd (by decide) c9) (fun c9 => ?_)
    refine lv_bipush (v := (-2)) hx hb dX10_back_12 (by decide) ?_
    exact hret _ _ _ _ (-2) () hP hD hS dX10_back_14 (by (repeat' split) <;> first | exact rfl | (exfalso; omega))
set_option maxHeartbeats 4000000 in
set_option maxRecDepth 100000 in
theorem f_X10_count (l : Launch) (G : va_G) (cI cJ cZ cB cQ : ClassId) (sz : Nat) (h0 : Nat) (b : Nat → Nat) (p0 : Int32) : CI l yX10_count (wl_ yX10_count cX10_count 4 (some .int)) ({ frames := 1, cells := 0, slots := 0, locals := 25 } : Room) G (TY cI cJ cZ cB cQ) [.ref h0, .int p0] [(h0, oX10 b 0 0 0 0 0 0 0 0 (-1) 0 0 0 0 0 0 0 0 0), (b 1, .inl (cI, 149, .inl (fun _ => 0))), (b 42, .inl (cI, 4, .inl (upd (upd (upd (upd (fun _ => 0) 0 (-1)) 1 (-1)) 2 (-1)) 3 (-1))))] sz (fun (r : Int32) (u : Unit) => r = if 0 ≤ p0.toInt ∧ p0.toInt ≤ 11 then 0 else -1) (fun _ : Unit => [(h0, oX10 b 0 0 0 0 0 0 0 0 (-1) 0 0 0 0 0 0 0 0 0), (b 1, .inl (cI, 149, .inl (fun _ => 0))), (b 42, .inl (cI, 4, .inl (upd (upd (upd (upd (fun _ => 0) 0 (-1)) 1 (-1)) 2 (-1)) 3 (-1))))]) 0 0 := by
  refine CI.go (cc := cX10_count) (maxL := 4) (ret := (some .int)) (by decide) rfl (Nat.le_of_ble_eq_true rfl) ?_
  intro p e s m below meth c A ls Q hBd hret
  obtain ⟨hx, hb, hr, hml, hts, hown, hlk, hnm, hP, hK, hD, hA, hZ, hl⟩ := hBd
  have hown : s.vm.findClass RX10 = some m.cls := hown
  have hl : lv_has ls 4 [(0, .ref h0), (1, .int p0)] := hl
  have hS : va_S A s.heap s.heap [] := va_S.rf
  refine lv_iload_n hx hb dX10_count_0 rfl (lv_at hl 1 rfl) ?_
  obtain ⟨v1, ev1⟩ : ∃ y : Int64, p0.toInt64 = y := ⟨_, rfl⟩
  have tv1 : v1.toInt = p0.toInt := ti_wide rfl ev1
  refine lv_i2l (v := v1) hx hb dX10_count_1 ev1 ?_
  refine lv_lconst (v := 0) hx hb dX10_count_2 (by decide) ?_
  refine lv_ldc2 (v := 9) hx hb hown (hts _ w_1973) dX10_count_3 ?_
  refine k_i (wc := []) (wr := [(h0, oX10 b 0 0 0 0 0 0 0 0 (-1) 0 0 0 0 0 0 0 0 0), (b 1, .inl (cI, 149, .inl (fun _ => 0))), (b 42, .inl (cI, 4, .inl (upd (upd (upd (upd (fun _ => 0) 0 (-1)) 1 (-1)) 2 (-1)) 3 (-1))))]) hP hD hS hA [] [0, 1, 2] rfl rfl rfl (by decide) (va_runS (As := [.long v1, .long 0, .long 9]) (rest := []) ⟨hx, hb, hml, hown, hts⟩ (f_X10_in l G cI cJ cZ cB cQ _ v1 0 9 p0.toInt 0 9 tv1 kl_0 kl_9) (va_cwS 3 hts (gS w_1336 w_1337 w_11 w_1338) rfl rfl rfl hd_X10_in ⟨Nat.le_of_ble_eq_true rfl, Nat.le_of_ble_eq_true rfl⟩) (mS hK hZ hP hD [] rfl rfl [.long v1, .long 0, .long 9]) rfl rfl hl.1 rfl (lv_room (Nat.le_of_ble_eq_true rfl)) dX10_count_6 ⟨Nat.le_of_ble_eq_true rfl, Nat.le_of_ble_eq_true rfl⟩) (fun r2 u3 H locs hw4 hP hD hS => ?_)
  try dsimp only at hw4
  have hP : va_P G vwCl [(h0, oX10 b 0 0 0 0 0 0 0 0 (-1) 0 0 0 0 0 0 0 0 0), (b 1, .inl (cI, 149, .inl (fun _ => 0))), (b 42, .inl (cI, 4, .inl (upd (upd (upd (upd (fun _ => 0) 0 (-1)) 1 (-1)) 2 (-1)) 3 (-1))))] H := hP
  have hD : va_D A [(h0, oX10 b 0 0 0 0 0 0 0 0 (-1) 0 0 0 0 0 0 0 0 0), (b 1, .inl (cI, 149, .inl (fun _ => 0))), (b 42, .inl (cI, 4, .inl (upd (upd (upd (upd (fun _ => 0) 0 (-1)) 1 (-1)) 2 (-1)) 3 (-1))))] := hD
  rcases hw4 with ⟨rfl, a5, b6⟩ | ⟨rfl, a5⟩
  · skip
    refine lv_if_eq (tgt := 19) hx hb dX10_count_9 (by decide) (fun c7 => absurd c7 (by decide)) (fun c7 => ?_)
    refine lv_aload_n hx hb dX10_count_12 rfl (lv_at hl 0 rfl) ?_
    refine va_get (D := G) (ci := 10) (v := .ref (b 1)) (C := RX10) (T := TX10) (N := 46) hx hb hts iG_X10 hown hK hP 0 rfl rfl 1 (by decide) (hts _ w_1193) (fun _ h9 => h9) rfl dX10_count_13 ?_
    refine lv_iload_n hx hb dX10_count_16 rfl (lv_at hl 1 rfl) ?_
    refine va_iald hx hb hK hP 1 0 rfl rfl (ix_in rfl (by omega) (by omega)) dX10_count_17 ?_
    refine W.eq (g2 := F0 m 18 ls [.int 0]) rfl ?_
    exact hret _ _ _ _ 0 () hP hD hS dX10_count_18 (by (repeat' split) <;> first | exact rfl | (exfalso; omega))
  · skip
    refine lv_if_eq (tgt := 19) hx hb dX10_count_9 (by decide) (fun c8 => ?_) (fun c8 => absurd (by decide) c8)
    refine lv_iload_n hx hb dX10_count_19 rfl (lv_at hl 1 rfl) ?_
    refine lv_bipush (v := 10) hx hb dX10_count_20 (by decide) ?_
    refine lv_icmp_ne (tgt := 30) hx hb dX10_count_22 (by decide) (fun c9 => ?_) (fun c9 => ?_)
    · have c9 := i_ne rfl ki_10 c9
      refine lv_iload_n hx hb dX10_count_30 rfl (lv_at hl 1 rfl) ?_
      refine lv_bipush (v := 11) hx hb dX10_count_31 (by decide) ?_
      refine lv_icmp_eq (tgt := 38) hx hb dX10_count_33 (by decide) (fun c10 => ?_) (fun c10 => ?_)
      · have c10 := i_eq rfl ki_11 c10
        refine lv_iconst (v := 0) hx hb dX10_count_38 (by decide) ?_
        refine lv_istore_n (lv' := [(2, .int 0), (0, .ref h0), (1, .int p0)]) hx hb dX10_count_39 rfl hl (by decide) rfl (fun ls hl => ?_)
        refine lv_iconst (v := 0) hx hb dX10_count_40 (by decide) ?_
        refine lv_istore_n (lv' := [(3, .int 0), (2, .int 0), (0, .ref h0), (1, .int p0)]) hx hb dX10_count_41 rfl hl (by decide) rfl (fun ls hl => ?_)
        have lp11 : ∀ (n12 : Nat) (x13 : Int32), 0 ≤ x13.toInt → x13.toInt ≤ 4 → 4 - x13.toInt < (n12 : Int) → ∀ (H : Heap) (locs : List Loc), va_P G vwCl [(h0, oX10 b 0 0 0 0 0 0 0 0 (-1) 0 0 0 0 0 0 0 0 0), (b 1, .inl (cI, 149, .inl (fun _ => 0))), (b 42, .inl (cI, 4, .inl (upd (upd (upd (upd (fun _ => 0) 0 (-1)) 1 (-1)) 2 (-1)) 3 (-1))))] H → va_D A [(h0, oX10 b 0 0 0 0 0 0 0 0 (-1) 0 0 0 0 0 0 0 0 0), (b 1, .inl (cI, 149, .inl (fun _ => 0))), (b 42, .inl (cI, 4, .inl (upd (upd (upd (upd (fun _ => 0) 0 (-1)) 1 (-1)) 2 (-1)) 3 (-1))))] → va_S A s.heap H locs → ∀ (ls : Array Slot), lv_has ls 4 [(3, .int x13), (2, .int 0), (0, .ref h0), (1, .int p0)] → W p l e ({ frames := 1, cells := 0, slots := 0, locals := 25 } : Room) s m ([.ref h0, .int p0] : List Value).toArray below meth c H locs 0 0 Q (F0 m 42 ls []) := by
          intro n12
          induction n12 with
          | zero =>
            intro x13 f13_0 f13_1 f13_2
            exact absurd f13_2 (by omega)
          | succ n12 ih14 =>
            intro x13 f13_0 f13_1 f13_2 H locs hP hD hS ls hl
            refine lv_iload_n hx hb dX10_count_42 rfl (lv_at hl 0 rfl) ?_
            refine lv_iconst (v := 4) hx hb dX10_count_43 (by decide) ?_
            refine lv_icmp_ge (tgt := 71) hx hb dX10_count_44 (by decide) (fun c15 => ?_) (fun c15 => ?_)
            · have c15 := i_le ki_4 rfl c15
              refine lv_iload_n hx hb dX10_count_71 rfl (lv_at hl 1 rfl) ?_
              exact hret _ _ _ _ 0 () hP hD hS dX10_count_72 (by (repeat' split) <;> first | exact rfl | (exfalso; omega))
            · have c15 := i_nle ki_4 rfl c15
              refine lv_iload_n hx hb dX10_count_47 rfl (lv_at hl 1 rfl) ?_
              refine lv_aload_n hx hb dX10_count_48 rfl (lv_at hl 2 rfl) ?_
              refine va_get (D := G) (ci := 10) (v := .ref (b 42)) (C := RX10) (T := TX10) (N := 46) hx hb hts iG_X10 hown hK hP 0 rfl rfl 42 (by decide) (hts _ w_1234) (fun _ h9 => h9) rfl dX10_count_49 ?_
              refine lv_iload_n hx hb dX10_count_52 rfl (lv_at hl 0 rfl) ?_
              refine va_iald hx hb hK hP 2 0 rfl rfl (ix_in rfl (by omega) (by omega)) dX10_count_53 ?_
              refine lv_topi (fun v16 ev16 => ?_)
              obtain rfl : v16 = -1 := ev16.trans (mn_at _ (by rw [ix_nat rfl (by omega)]; omega))
              refine lv_iconst (v := (-1)) hx hb dX10_count_54 (by decide) ?_
              refine lv_icmp_ne (tgt := 62) hx hb dX10_count_55 (by decide) (fun c17 => absurd (by decide) c17) (fun c17 => ?_)
              refine lv_iconst (v := 0) hx hb dX10_count_58 (by decide) ?_
              refine lv_goto (tgt := 63) hx hb dX10_count_59 (by decide) ?_
              refine lv_iadd hx hb dX10_count_63 ?_
              refine lv_topi (fun v18 ev18 => ?_)
              obtain rfl : v18 = 0 := ev18.trans (by decide)
              refine lv_istore_n (lv' := [(2, .int 0), (3, .int x13), (0, .ref h0), (1, .int p0)]) hx hb dX10_count_64 rfl hl (by decide) rfl (fun ls hl => ?_)
              obtain ⟨v19, ev19⟩ : ∃ y : Int32, y = x13 + 1 := ⟨_, rfl⟩
              have tv19 : v19.toInt = x13.toInt + 1 := ti_add rfl ki_1 ev19 (by omega) (by omega)
              refine lv_iinc (v := v19) (lv' := [(3, .int v19), (2, .int 0), (0, .ref h0), (1, .int p0)]) hx hb dX10_count_65 hl (k := 1) rfl (by rw [ev19]; rfl) (by decide) rfl (fun ls hl => ?_)
              refine lv_goto (tgt := 42) hx hb dX10_count_68 (by decide) ?_
              exact ih14 v19 (by omega) (by omega) (by omega) _ _ hP hD hS ls (lv_sub hl [0, 1, 2, 3] rfl)
        exact lp11 5 0 (by rw [ki_0]; decide) (by rw [ki_0]; decide) (by rw [ki_0]; decide) _ _ hP hD hS ls (lv_sub hl [0, 1, 2, 3] rfl)
      · have c10 := i_ne rfl ki_11 c10
        refine lv_iconst (v := (-1)) hx hb dX10_count_36 (by decide) ?_
        exact hret _ _ _ _ (-1) () hP hD hS dX10_count_37 (by (repeat' split) <;> first | exact rfl | (exfalso; omega))
    · have c9 := i_eq rfl ki_10 c9
      refine lv_aload_n hx hb dX10_count_25 rfl (lv_at hl 0 rfl) ?_
      refine va_get (D := G) (ci := 10) (v := .int 0) (C := RX10) (T := TX10) (N := 46) hx hb hts iG_X10 hown hK hP 0 rfl rfl 5 (by decide) (hts _ w_1197) (fun _ h9 => h9) rfl dX10_count_26 ?_
      exact hret _ _ _ _ 0 () hP hD hS dX10_count_29 (by (repeat' split) <;> first | exact rfl | (exfalso; omega))
set_option maxHeartbeats 4000000 in
set_option maxRecDepth 100000 in
theorem f_X10_row (l : Launch) (G : va_G) (cI cJ cZ cB cQ : ClassId) (sz : Nat) (h0 : Nat) (b : Nat → Nat) (p0 : Int32) (p1 : Int32) (p2 : Int32) : CI l yX10_row (wl_ yX10_row cX10_row 5 (some .int)) ({ frames := 2, cells := 0, slots := 0, locals := 45 } : Room) G (TY cI cJ cZ cB cQ) [.ref h0, .int p0, .int p1, .int p2] [(h0, oX10 b 0 0 0 0 0 0 0 0 (-1) 0 0 0 0 0 0 0 0 0), (b 42, .inl (cI, 4, .inl (upd (upd (upd (upd (fun _ => 0) 0 (-1)) 1 (-1)) 2 (-1)) 3 (-1)))), (b 43, .inl (cI, 4, .inl (fun _ => 0))), (b 44, .inl (cJ, 240, .inr (.inl (fun _ => 0))))] sz (fun (r : Int32) (u : (Nat → Int32) × (Nat → Int32)) => r = if p0.toInt < 0 ∨ 3 < p0.toInt ∨ p1.toInt < 0 ∨ 3 < p1.toInt ∨ 60 < p2.toInt then -2 else if p2.toInt < 0 then -3 else 0) (fun u : (Nat → Int32) × (Nat → Int32) => [(h0, oX10 b 0 0 0 0 0 0 0 0 (-1) 0 0 0 0 0 0 0 0 0), (b 42, .inl (cI, 4, .inl u.1)), (b 43, .inl (cI, 4, .inl u.2)), (b 44, .inl (cJ, 240, .inr (.inl (fun _ => 0))))]) 0 0 := by
  refine CI.go (cc := cX10_row) (maxL := 5) (ret := (some .int)) (by decide) rfl (Nat.le_of_ble_eq_true rfl) ?_
  intro p e s m below meth c A ls Q hBd hret
  obtain ⟨hx, hb, hr, hml, hts, hown, hlk, hnm, hP, hK, hD, hA, hZ, hl⟩ := hBd
  have hown : s.vm.findClass RX10 = some m.cls := hown
  have hl : lv_has ls 5 [(0, .ref h0), (1, .int p0), (2, .int p1), (3, .int p2)] := hl
  have hS : va_S A s.heap s.heap [] := va_S.rf
  refine lv_iload_n hx hb dX10_row_0 rfl (lv_at hl 1 rfl) ?_
  refine k_i (wc := []) (wr := [(h0, oX10 b 0 0 0 0 0 0 0 0 (-1) 0 0 0 0 0 0 0 0 0), (b 42, .inl (cI, 4, .inl (upd (upd (upd (upd (fun _ => 0) 0 (-1)) 1 (-1)) 2 (-1)) 3 (-1)))), (b 43, .inl (cI, 4, .inl (fun _ => 0))), (b 44, .inl (cJ, 240, .inr (.inl (fun _ => 0))))]) hP hD hS hA [] [0, 1, 2, 3] rfl rfl rfl (by decide) (va_runS (As := [.int p0]) (rest := []) ⟨hx, hb, hml, hown, hts⟩ (f_X10_isSlot l G cI cJ cZ cB cQ _ p0 p0.toInt rfl) (va_cwS 1 hts (gS w_1816 w_1817 w_11 w_1818) rfl rfl rfl hd_X10_isSlot ⟨Nat.le_of_ble_eq_true rfl, Nat.le_of_ble_eq_true rfl⟩) (mS hK hZ hP hD [] rfl rfl [.int p0]) rfl rfl hl.1 rfl (lv_room (Nat.le_of_ble_eq_true rfl)) dX10_row_1 ⟨Nat.le_of_ble_eq_true rfl, Nat.le_of_ble_eq_true rfl⟩) (fun r1 u2 H locs hw3 hP hD hS => ?_)
  try dsimp only at hw3
  have hP : va_P G vwCl [(h0, oX10 b 0 0 0 0 0 0 0 0 (-1) 0 0 0 0 0 0 0 0 0), (b 42, .inl (cI, 4, .inl (upd (upd (upd (upd (fun _ => 0) 0 (-1)) 1 (-1)) 2 (-1)) 3 (-1)))), (b 43, .inl (cI, 4, .inl (fun _ => 0))), (b 44, .inl (cJ, 240, .inr (.inl (fun _ => 0))))] H := hP
  have hD : va_D A [(h0, oX10 b 0 0 0 0 0 0 0 0 (-1) 0 0 0 0 0 0 0 0 0), (b 42, .inl (cI, 4, .inl (upd (upd (upd (upd (fun _ => 0) 0 (-1)) 1 (-1)) 2 (-1)) 3 (-1)))), (b 43, .inl (cI, 4, .inl (fun _ => 0))), (b 44, .inl (cJ, 240, .inr (.inl (fun _ => 0))))] := hD
  rcases hw3 with ⟨rfl, a4, b5⟩ | ⟨rfl, a4⟩
  · skip
    refine lv_if_eq (tgt := 25) hx hb dX10_row_4 (by decide) (fun c6 => absurd c6 (by decide)) (fun c6 => ?_)
    refine lv_iload_n hx hb dX10_row_7 rfl (lv_at hl 2 rfl) ?_
    obtain ⟨v7, ev7⟩ : ∃ y : Int64, p1.toInt64 = y := ⟨_, rfl⟩
    have tv7 : v7.toInt = p1.toInt := ti_wide rfl ev7
    refine lv_i2l (v := v7) hx hb dX10_row_8 ev7 ?_
    refine lv_lconst (v := 0) hx hb dX10_row_9 (by decide) ?_
    refine lv_ldc2 (v := 3) hx hb hown (hts _ w_1819) dX10_row_10 ?_
    refine k_i (wc := []) (wr := [(h0, oX10 b 0 0 0 0 0 0 0 0 (-1) 0 0 0 0 0 0 0 0 0), (b 42, .inl (cI, 4, .inl (upd (upd (upd (upd (fun _ => 0) 0 (-1)) 1 (-1)) 2 (-1)) 3 (-1)))), (b 43, .inl (cI, 4, .inl (fun _ => 0))), (b 44, .inl (cJ, 240, .inr (.inl (fun _ => 0))))]) hP hD hS hA [] [0, 1, 2, 3] rfl rfl rfl (by decide) (va_runS (As := [.long v7, .long 0, .long 3]) (rest := []) ⟨hx, hb, hml, hown, hts⟩ (f_X10_in l G cI cJ cZ cB cQ _ v7 0 3 p1.toInt 0 3 tv7 kl_0 kl_3) (va_cwS 3 hts (gS w_1336 w_1337 w_11 w_1338) rfl rfl rfl hd_X10_in ⟨Nat.le_of_ble_eq_true rfl, Nat.le_of_ble_eq_true rfl⟩) (mS hK hZ hP hD [] rfl rfl [.long v7, .long 0, .long 3]) rfl rfl hl.1 rfl (lv_room (Nat.le_of_ble_eq_true rfl)) dX10_row_13 ⟨Nat.le_of_ble_eq_true rfl, Nat.le_of_ble_eq_true rfl⟩) (fun r8 u9 H locs hw10 hP hD hS => ?_)
    try dsimp only at hw10
    have hP : va_P G vwCl [(h0, oX10 b 0 0 0 0 0 0 0 0 (-1) 0 0 0 0 0 0 0 0 0), (b 42, .inl (cI, 4, .inl (upd (upd (upd (upd (fun _ => 0) 0 (-1)) 1 (-1)) 2 (-1)) 3 (-1)))), (b 43, .inl (cI, 4, .inl (fun _ => 0))), (b 44, .inl (cJ, 240, .inr (.inl (fun _ => 0))))] H := hP
    have hD : va_D A [(h0, oX10 b 0 0 0 0 0 0 0 0 (-1) 0 0 0 0 0 0 0 0 0), (b 42, .inl (cI, 4, .inl (upd (upd (upd (upd (fun _ => 0) 0 (-1)) 1 (-1)) 2 (-1)) 3 (-1)))), (b 43, .inl (cI, 4, .inl (fun _ => 0))), (b 44, .inl (cJ, 240, .inr (.inl (fun _ => 0))))] := hD
    rcases hw10 with ⟨rfl, a11, b12⟩ | ⟨rfl, a11⟩
    · skip
      refine lv_if_eq (tgt := 25) hx hb dX10_row_16 (by decide) (fun c13 => absurd c13 (by decide)) (fun c13 => ?_)
      refine lv_iload_n hx hb dX10_row_19 rfl (lv_at hl 3 rfl) ?_
      refine lv_bipush (v := 60) hx hb dX10_row_20 (by decide) ?_
      refine lv_icmp_le (tgt := 28) hx hb dX10_row_22 (by decide) (fun c14 => ?_) (fun c14 => ?_)
      · have c14 := i_le rfl ki_60 c14
        refine lv_iload_n hx hb dX10_row_28 rfl (lv_at hl 3 rfl) ?_
        refine lv_if_ge (tgt := 35) hx hb dX10_row_29 (by decide) (fun c15 => ?_) (fun c15 => ?_)
        · have c15 := i_le ki_0 rfl c15
          refine lv_aload_n hx hb dX10_row_35 rfl (lv_at hl 0 rfl) ?_
          refine va_get (D := G) (ci := 10) (v := .ref (b 42)) (C := RX10) (T := TX10) (N := 46) hx hb hts iG_X10 hown hK hP 0 rfl rfl 42 (by decide) (hts _ w_1234) (fun _ h9 => h9) rfl dX10_row_36 ?_
          refine lv_iload_n hx hb dX10_row_39 rfl (lv_at hl 1 rfl) ?_
          refine lv_iload_n hx hb dX10_row_40 rfl (lv_at hl 3 rfl) ?_
          refine va_iast hx hb hK hP hD hS 1 0 rfl rfl (ix_in rfl (by omega) (by omega)) dX10_row_41 (fun H locs hP hD hS => ?_)
          generalize upd (upd (upd (upd (upd (fun _ => 0) 0 (-1)) 1 (-1)) 2 (-1)) 3 (-1)) p0.toNatClampNeg p2 = f16 at hP hD
          have hP : va_P G vwCl [(h0, oX10 b 0 0 0 0 0 0 0 0 (-1) 0 0 0 0 0 0 0 0 0), (b 42, .inl (cI, 4, .inl f16)), (b 43, .inl (cI, 4, .inl (fun _ => 0))), (b 44, .inl (cJ, 240, .inr (.inl (fun _ => 0))))] H := hP
          have hD : va_D A [(h0, oX10 b 0 0 0 0 0 0 0 0 (-1) 0 0 0 0 0 0 0 0 0), (b 42, .inl (cI, 4, .inl f16)), (b 43, .inl (cI, 4, .inl (fun _ => 0))), (b 44, .inl (cJ, 240, .inr (.inl (fun _ => 0))))] := hD
          refine lv_aload_n hx hb dX10_row_42 rfl (lv_at hl 0 rfl) ?_
          refine va_get (D := G) (ci := 10) (v := .ref (b 43)) (C := RX10) (T := TX10) (N := 46) hx hb hts iG_X10 hown hK hP 0 rfl rfl 43 (by decide) (hts _ w_1235) (fun _ h9 => h9) rfl dX10_row_43 ?_
          refine lv_iload_n hx hb dX10_row_46 rfl (lv_at hl 1 rfl) ?_
          refine lv_iload_n hx hb dX10_row_47 rfl (lv_at hl 2 rfl) ?_
          refine va_iast hx hb hK hP hD hS 2 0 rfl rfl (ix_in rfl (by omega) (by omega)) dX10_row_48 (fun H locs hP hD hS => ?_)
          generalize upd (fun _ => 0) p0.toNatClampNeg p1 = f17 at hP hD
          have hP : va_P G vwCl [(h0, oX10 b 0 0 0 0 0 0 0 0 (-1) 0 0 0 0 0 0 0 0 0), (b 42, .inl (cI, 4, .inl f16)), (b 43, .inl (cI, 4, .inl f17)), (b 44, .inl (cJ, 240, .inr (.inl (fun _ => 0))))] H := hP
          have hD : va_D A [(h0, oX10 b 0 0 0 0 0 0 0 0 (-1) 0 0 0 0 0 0 0 0 0), (b 42, .inl (cI, 4, .inl f16)), (b 43, .inl (cI, 4, .inl f17)), (b 44, .inl (cJ, 240, .inr (.inl (fun _ => 0))))] := hD
          refine lv_iconst (v := 0) hx hb dX10_row_49 (by decide) ?_
          refine lv_istore (lv' := [(4, .int 0), (0, .ref h0), (1, .int p0), (2, .int p1), (3, .int p2)]) hx hb dX10_row_50 hl (by decide) rfl (fun ls hl => ?_)
          have lp18 : ∀ (n19 : Nat) (x20 : Int32), 0 ≤ x20.toInt → x20.toInt ≤ 60 → 60 - x20.toInt < (n19 : Int) → ∀ (H : Heap) (locs : List Loc), va_P G vwCl [(h0, oX10 b 0 0 0 0 0 0 0 0 (-1) 0 0 0 0 0 0 0 0 0), (b 42, .inl (cI, 4, .inl f16)), (b 43, .inl (cI, 4, .inl f17)), (b 44, .inl (cJ, 240, .inr (.inl (fun _ => 0))))] H → va_D A [(h0, oX10 b 0 0 0 0 0 0 0 0 (-1) 0 0 0 0 0 0 0 0 0), (b 42, .inl (cI, 4, .inl f16)), (b 43, .inl (cI, 4, .inl f17)), (b 44, .inl (cJ, 240, .inr (.inl (fun _ => 0))))] → va_S A s.heap H locs → ∀ (ls : Array Slot), lv_has ls 5 [(4, .int x20), (0, .ref h0), (1, .int p0), (2, .int p1), (3, .int p2)] → W p l e ({ frames := 2, cells := 0, slots := 0, locals := 45 } : Room) s m ([.ref h0, .int p0, .int p1, .int p2] : List Value).toArray below meth c H locs 0 0 Q (F0 m 52 ls []) := by
            intro n19
            induction n19 with
            | zero =>
              intro x20 f20_0 f20_1 f20_2
              exact absurd f20_2 (by omega)
            | succ n19 ih21 =>
              intro x20 f20_0 f20_1 f20_2 H locs hP hD hS ls hl
              refine lv_iload hx hb dX10_row_52 (lv_at hl 0 rfl) ?_
              refine lv_bipush (v := 60) hx hb dX10_row_54 (by decide) ?_
              refine lv_icmp_ge (tgt := 78) hx hb dX10_row_56 (by decide) (fun c22 => ?_) (fun c22 => ?_)
              · have c22 := i_le ki_60 rfl c22
                refine lv_iconst (v := 0) hx hb dX10_row_78 (by decide) ?_
                exact hret _ _ _ _ 0 (f16, f17) hP hD hS dX10_row_79 (by (repeat' split) <;> first | exact rfl | (exfalso; omega))
              · have c22 := i_nle ki_60 rfl c22
                refine lv_aload_n hx hb dX10_row_59 rfl (lv_at hl 1 rfl) ?_
                refine va_get (D := G) (ci := 10) (v := .ref (b 44)) (C := RX10) (T := TX10) (N := 46) hx hb hts iG_X10 hown hK hP 0 rfl rfl 44 (by decide) (hts _ w_1236) (fun _ h9 => h9) rfl dX10_row_60 ?_
                refine lv_bipush (v := 60) hx hb dX10_row_63 (by decide) ?_
                refine lv_iload_n hx hb dX10_row_65 rfl (lv_at hl 2 rfl) ?_
                refine lv_imul hx hb dX10_row_66 ?_
                refine lv_topi (fun v23 ev23 => ?_)
                have tv23 : v23.toInt = 60 * p0.toInt := ti_mul ki_60 rfl ev23 (by omega) (by omega)
                refine lv_iload hx hb dX10_row_67 (lv_at hl 0 rfl) ?_
                refine lv_iadd hx hb dX10_row_69 ?_
                refine lv_topi (fun v24 ev24 => ?_)
                have tv24 : v24.toInt = 60 * p0.toInt + x20.toInt := ti_add tv23 rfl ev24 (by omega) (by omega)
                refine lv_lconst (v := 0) hx hb dX10_row_70 (by decide) ?_
                refine va_last hx hb hK hP hD hS 3 1 rfl rfl (ix_in tv24 (by omega) (by omega)) dX10_row_71 (fun H locs hP hD hS => ?_)
                rw [updL_z] at hP hD
                have hP : va_P G vwCl [(h0, oX10 b 0 0 0 0 0 0 0 0 (-1) 0 0 0 0 0 0 0 0 0), (b 42, .inl (cI, 4, .inl f16)), (b 43, .inl (cI, 4, .inl f17)), (b 44, .inl (cJ, 240, .inr (.inl (fun _ => 0))))] H := hP
                have hD : va_D A [(h0, oX10 b 0 0 0 0 0 0 0 0 (-1) 0 0 0 0 0 0 0 0 0), (b 42, .inl (cI, 4, .inl f16)), (b 43, .inl (cI, 4, .inl f17)), (b 44, .inl (cJ, 240, .inr (.inl (fun _ => 0))))] := hD
                obtain ⟨v25, ev25⟩ : ∃ y : Int32, y = x20 + 1 := ⟨_, rfl⟩
                have tv25 : v25.toInt = x20.toInt + 1 := ti_add rfl ki_1 ev25 (by omega) (by omega)
                refine lv_iinc (v := v25) (lv' := [(4, .int v25), (0, .ref h0), (1, .int p0), (2, .int p1), (3, .int p2)]) hx hb dX10_row_72 hl (k := 0) rfl (by rw [ev25]; rfl) (by decide) rfl (fun ls hl => ?_)
                refine lv_goto (tgt := 52) hx hb dX10_row_75 (by decide) ?_
                exact ih21 v25 (by omega) (by omega) (by omega) _ _ hP hD hS ls (lv_sub hl [0, 1, 2, 3, 4] rfl)
          exact lp18 61 0 (by rw [ki_0]; decide) (by rw [ki_0]; decide) (by rw [ki_0]; decide) _ _ hP hD hS ls (lv_sub hl [0, 1, 2, 3, 4] rfl)
        · have c15 := i_nle ki_0 rfl c15
          refine lv_bipush (v := (-3)) hx hb dX10_row_32 (by decide) ?_
          exact hret _ _ _ _ (-3) ((upd (upd (upd (upd (fun _ => 0) 0 (-1)) 1 (-1)) 2 (-1)) 3 (-1)), (fun _ => 0)) hP hD hS dX10_row_34 (by (repeat' split) <;> first | exact rfl | (exfalso; omega))
      · have c14 := i_nle rfl ki_60 c14
        refine lv_bipush (v := (-2)) hx hb dX10_row_25 (by decide) ?_
        exact hret _ _ _ _ (-2) ((upd (upd (upd (upd (fun _ => 0) 0 (-1)) 1 (-1)) 2 (-1)) 3 (-1)), (fun _ => 0)) hP hD hS dX10_row_27 (by (repeat' split) <;> first | exact rfl | (exfalso; omega))
    · skip
      refine lv_if_eq (tgt := 25) hx hb dX10_row_16 (by decide) (fun c26 => ?_) (fun c26 => absurd (by decide) c26)
      refine lv_bipush (v := (-2)) hx hb dX10_row_25 (by decide) ?_
      exact hret _ _ _ _ (-2) ((upd (upd (upd (upd (fun _ => 0) 0 (-1)) 1 (-1)) 2 (-1)) 3 (-1)), (fun _ => 0)) hP hD hS dX10_row_27 (by (repeat' split) <;> first | exact rfl | (exfalso; omega))
  · skip
    refine lv_if_eq (tgt := 25) hx hb dX10_row_4 (by decide) (fun c27 => ?_) (fun c27 => absurd (by decide) c27)
    refine lv_bipush (v := (-2)) hx hb dX10_row_25 (by decide) ?_
    exact hret _ _ _ _ (-2) ((upd (upd (upd (upd (fun _ => 0) 0 (-1)) 1 (-1)) 2 (-1)) 3 (-1)), (fun _ => 0)) hP hD hS dX10_row_27 (by (repeat' split) <;> first | exact rfl | (exfalso; omega))
set_option maxHeartbeats 4000000 in
set_option maxRecDepth 100000 in
theorem f_X10_write (l : Launch) (G : va_G) (cI cJ cZ cB cQ : ClassId) (sz : Nat) (h0 : Nat) (b : Nat → Nat) (p0 : Int32) (p1 : Int32) (p2 : Int64) : CI l yX10_write (wl_ yX10_write cX10_write 5 (some .int)) ({ frames := 2, cells := 0, slots := 0, locals := 45 } : Room) G (TY cI cJ cZ cB cQ) [.ref h0, .int p0, .int p1, .long p2] [(h0, oX10 b 0 0 0 0 0 0 0 0 (-1) 0 0 0 0 0 0 0 0 0), (b 42, .inl (cI, 4, .inl (upd (upd (upd (upd (fun _ => 0) 0 (-1)) 1 (-1)) 2 (-1)) 3 (-1))))] sz (fun (r : Int32) (u : Unit) => r = if 0 ≤ p0.toInt ∧ p0.toInt ≤ 3 then -6 else -2) (fun _ : Unit => [(h0, oX10 b 0 0 0 0 0 0 0 0 (-1) 0 0 0 0 0 0 0 0 0), (b 42, .inl (cI, 4, .inl (upd (upd (upd (upd (fun _ => 0) 0 (-1)) 1 (-1)) 2 (-1)) 3 (-1))))]) 0 0 := by
  refine CI.go (cc := cX10_write) (maxL := 5) (ret := (some .int)) (by decide) rfl (Nat.le_of_ble_eq_true rfl) ?_
  intro p e s m below meth c A ls Q hBd hret
  obtain ⟨hx, hb, hr, hml, hts, hown, hlk, hnm, hP, hK, hD, hA, hZ, hl⟩ := hBd
  have hown : s.vm.findClass RX10 = some m.cls := hown
  have hl : lv_has ls 5 [(0, .ref h0), (1, .int p0), (2, .int p1), (3, .long p2)] := hl
  have hS : va_S A s.heap s.heap [] := va_S.rf
  refine lv_iload_n hx hb dX10_write_0 rfl (lv_at hl 1 rfl) ?_
  refine k_i (wc := []) (wr := [(h0, oX10 b 0 0 0 0 0 0 0 0 (-1) 0 0 0 0 0 0 0 0 0), (b 42, .inl (cI, 4, .inl (upd (upd (upd (upd (fun _ => 0) 0 (-1)) 1 (-1)) 2 (-1)) 3 (-1))))]) hP hD hS hA [] [0, 1] rfl rfl rfl (by decide) (va_runS (As := [.int p0]) (rest := []) ⟨hx, hb, hml, hown, hts⟩ (f_X10_isSlot l G cI cJ cZ cB cQ _ p0 p0.toInt rfl) (va_cwS 1 hts (gS w_1816 w_1817 w_11 w_1818) rfl rfl rfl hd_X10_isSlot ⟨Nat.le_of_ble_eq_true rfl, Nat.le_of_ble_eq_true rfl⟩) (mS hK hZ hP hD [] rfl rfl [.int p0]) rfl rfl hl.1 rfl (lv_room (Nat.le_of_ble_eq_true rfl)) dX10_write_1 ⟨Nat.le_of_ble_eq_true rfl, Nat.le_of_ble_eq_true rfl⟩) (fun r1 u2 H locs hw3 hP hD hS => ?_)
  try dsimp only at hw3
  have hP : va_P G vwCl [(h0, oX10 b 0 0 0 0 0 0 0 0 (-1) 0 0 0 0 0 0 0 0 0), (b 42, .inl (cI, 4, .inl (upd (upd (upd (upd (fun _ => 0) 0 (-1)) 1 (-1)) 2 (-1)) 3 (-1))))] H := hP
  have hD : va_D A [(h0, oX10 b 0 0 0 0 0 0 0 0 (-1) 0 0 0 0 0 0 0 0 0), (b 42, .inl (cI, 4, .inl (upd (upd (upd (upd (fun _ => 0) 0 (-1)) 1 (-1)) 2 (-1)) 3 (-1))))] := hD
  rcases hw3 with ⟨rfl, a4, b5⟩ | ⟨rfl, a4⟩
  · skip
    refine lv_if_ne (tgt := 10) hx hb dX10_write_4 (by decide) (fun c6 => ?_) (fun c6 => absurd c6 (by decide))
    refine lv_aload_n hx hb dX10_write_10 rfl (lv_at hl 0 rfl) ?_
    refine va_get (D := G) (ci := 10) (v := .ref (b 42)) (C := RX10) (T := TX10) (N := 46) hx hb hts iG_X10 hown hK hP 0 rfl rfl 42 (by decide) (hts _ w_1234) (fun _ h9 => h9) rfl dX10_write_11 ?_
    refine lv_iload_n hx hb dX10_write_14 rfl (lv_at hl 1 rfl) ?_
    refine va_iald hx hb hK hP 1 0 rfl rfl (ix_in rfl (by omega) (by omega)) dX10_write_15 ?_
    refine lv_topi (fun v7 ev7 => ?_)
    obtain rfl : v7 = -1 := ev7.trans (mn_at _ (by rw [ix_nat rfl (by omega)]; omega))
    refine lv_iconst (v := (-1)) hx hb dX10_write_16 (by decide) ?_
    refine lv_icmp_ne (tgt := 23) hx hb dX10_write_17 (by decide) (fun c8 => absurd (by decide) c8) (fun c8 => ?_)
    refine lv_bipush (v := (-6)) hx hb dX10_write_20 (by decide) ?_
    exact hret _ _ _ _ (-6) () hP hD hS dX10_write_22 (by (repeat' split) <;> first | exact rfl | (exfalso; omega))
  · skip
    refine lv_if_ne (tgt := 10) hx hb dX10_write_4 (by decide) (fun c9 => absurd (by decide) c9) (fun c9 => ?_)
    refine lv_bipush (v := (-2)) hx hb dX10_write_7 (by decide) ?_
    exact hret _ _ _ _ (-2) () hP hD hS dX10_write_9 (by (repeat' split) <;> first | exact rfl | (exfalso; omega))
set_option maxHeartbeats 4000000 in
set_option maxRecDepth 100000 in
theorem f_X10_paste (l : Launch) (G : va_G) (cI cJ cZ cB cQ : ClassId) (sz : Nat) (h0 : Nat) (b : Nat → Nat) (p0 : Int32) (p1 : Int32) (p2 : Int32) (p3 : Int32) (p4 : Int32) : CI l yX10_paste (wl_ yX10_paste cX10_paste 7 (some .int)) ({ frames := 2, cells := 0, slots := 0, locals := 45 } : Room) G (TY cI cJ cZ cB cQ) [.ref h0, .int p0, .int p1, .int p2, .int p3, .int p4] [(h0, oX10 b 0 0 0 0 0 0 0 0 (-1) 0 0 0 0 0 0 0 0 0), (b 42, .inl (cI, 4, .inl (upd (upd (upd (upd (fun _ => 0) 0 (-1)) 1 (-1)) 2 (-1)) 3 (-1))))] sz (fun (r : Int32) (u : Unit) => r = if (0 ≤ p0.toInt ∧ p0.toInt ≤ 3) ∧ (0 ≤ p2.toInt ∧ p2.toInt ≤ 3) then -6 else -2) (fun _ : Unit => [(h0, oX10 b 0 0 0 0 0 0 0 0 (-1) 0 0 0 0 0 0 0 0 0), (b 42, .inl (cI, 4, .inl (upd (upd (upd (upd (fun _ => 0) 0 (-1)) 1 (-1)) 2 (-1)) 3 (-1))))]) 0 0 := by
  refine CI.go (cc := cX10_paste) (maxL := 7) (ret := (some .int)) (by decide) rfl (Nat.le_of_ble_eq_true rfl) ?_
  intro p e s m below meth c A ls Q hBd hret
  obtain ⟨hx, hb, hr, hml, hts, hown, hlk, hnm, hP, hK, hD, hA, hZ, hl⟩ := hBd
  have hown : s.vm.findClass RX10 = some m.cls := hown
  have hl : lv_has ls 7 [(0, .ref h0), (1, .int p0), (2, .int p1), (3, .int p2), (4, .int p3), (5, .int p4)] := hl
  have hS : va_S A s.heap s.heap [] := va_S.rf
  refine lv_iload_n hx hb dX10_paste_0 rfl (lv_at hl 1 rfl) ?_
  refine k_i (wc := []) (wr := [(h0, oX10 b 0 0 0 0 0 0 0 0 (-1) 0 0 0 0 0 0 0 0 0), (b 42, .inl (cI, 4, .inl (upd (upd (upd (upd (fun _ => 0) 0 (-1)) 1 (-1)) 2 (-1)) 3 (-1))))]) hP hD hS hA [] [0, 1] rfl rfl rfl (by decide) (va_runS (As := [.int p0]) (rest := []) ⟨hx, hb, hml, hown, hts⟩ (f_X10_isSlot l G cI cJ cZ cB cQ _ p0 p0.toInt rfl) (va_cwS 1 hts (gS w_1816 w_1817 w_11 w_1818) rfl rfl rfl hd_X10_isSlot ⟨Nat.le_of_ble_eq_true rfl, Nat.le_of_ble_eq_true rfl⟩) (mS hK hZ hP hD [] rfl rfl [.int p0]) rfl rfl hl.1 rfl (lv_room (Nat.le_of_ble_eq_true rfl)) dX10_paste_1 ⟨Nat.le_of_ble_eq_true rfl, Nat.le_of_ble_eq_true rfl⟩) (fun r1 u2 H locs hw3 hP hD hS => ?_)
  try dsimp only at hw3
  have hP : va_P G vwCl [(h0, oX10 b 0 0 0 0 0 0 0 0 (-1) 0 0 0 0 0 0 0 0 0), (b 42, .inl (cI, 4, .inl (upd (upd (upd (upd (fun _ => 0) 0 (-1)) 1 (-1)) 2 (-1)) 3 (-1))))] H := hP
  have hD : va_D A [(h0, oX10 b 0 0 0 0 0 0 0 0 (-1) 0 0 0 0 0 0 0 0 0), (b 42, .inl (cI, 4, .inl (upd (upd (upd (upd (fun _ => 0) 0 (-1)) 1 (-1)) 2 (-1)) 3 (-1))))] := hD
  rcases hw3 with ⟨rfl, a4, b5⟩ | ⟨rfl, a4⟩
  · skip
    refine lv_if_eq (tgt := 14) hx hb dX10_paste_4 (by decide) (fun c6 => absurd c6 (by decide)) (fun c6 => ?_)
    refine lv_iload_n hx hb dX10_paste_7 rfl (lv_at hl 3 rfl) ?_
    refine k_i (wc := []) (wr := [(h0, oX10 b 0 0 0 0 0 0 0 0 (-1) 0 0 0 0 0 0 0 0 0), (b 42, .inl (cI, 4, .inl (upd (upd (upd (upd (fun _ => 0) 0 (-1)) 1 (-1)) 2 (-1)) 3 (-1))))]) hP hD hS hA [] [0, 1] rfl rfl rfl (by decide) (va_runS (As := [.int p2]) (rest := []) ⟨hx, hb, hml, hown, hts⟩ (f_X10_isSlot l G cI cJ cZ cB cQ _ p2 p2.toInt rfl) (va_cwS 1 hts (gS w_1816 w_1817 w_11 w_1818) rfl rfl rfl hd_X10_isSlot ⟨Nat.le_of_ble_eq_true rfl, Nat.le_of_ble_eq_true rfl⟩) (mS hK hZ hP hD [] rfl rfl [.int p2]) rfl rfl hl.1 rfl (lv_room (Nat.le_of_ble_eq_true rfl)) dX10_paste_8 ⟨Nat.le_of_ble_eq_true rfl, Nat.le_of_ble_eq_true rfl⟩) (fun r7 u8 H locs hw9 hP hD hS => ?_)
    try dsimp only at hw9
    have hP : va_P G vwCl [(h0, oX10 b 0 0 0 0 0 0 0 0 (-1) 0 0 0 0 0 0 0 0 0), (b 42, .inl (cI, 4, .inl (upd (upd (upd (upd (fun _ => 0) 0 (-1)) 1 (-1)) 2 (-1)) 3 (-1))))] H := hP
    have hD : va_D A [(h0, oX10 b 0 0 0 0 0 0 0 0 (-1) 0 0 0 0 0 0 0 0 0), (b 42, .inl (cI, 4, .inl (upd (upd (upd (upd (fun _ => 0) 0 (-1)) 1 (-1)) 2 (-1)) 3 (-1))))] := hD
    rcases hw9 with ⟨rfl, a10, b11⟩ | ⟨rfl, a10⟩
    · skip
      refine lv_if_ne (tgt := 17) hx hb dX10_paste_11 (by decide) (fun c12 => ?_) (fun c12 => absurd c12 (by decide))
      refine lv_aload_n hx hb dX10_paste_17 rfl (lv_at hl 0 rfl) ?_
      refine va_get (D := G) (ci := 10) (v := .ref (b 42)) (C := RX10) (T := TX10) (N := 46) hx hb hts iG_X10 hown hK hP 0 rfl rfl 42 (by decide) (hts _ w_1234) (fun _ h9 => h9) rfl dX10_paste_18 ?_
      refine lv_iload_n hx hb dX10_paste_21 rfl (lv_at hl 1 rfl) ?_
      refine va_iald hx hb hK hP 1 0 rfl rfl (ix_in rfl (by omega) (by omega)) dX10_paste_22 ?_
      refine lv_topi (fun v13 ev13 => ?_)
      obtain rfl : v13 = -1 := ev13.trans (mn_at _ (by rw [ix_nat rfl (by omega)]; omega))
      refine lv_iconst (v := (-1)) hx hb dX10_paste_23 (by decide) ?_
      refine lv_icmp_eq (tgt := 37) hx hb dX10_paste_24 (by decide) (fun c14 => ?_) (fun c14 => absurd (by decide) c14)
      refine lv_bipush (v := (-6)) hx hb dX10_paste_37 (by decide) ?_
      exact hret _ _ _ _ (-6) () hP hD hS dX10_paste_39 (by (repeat' split) <;> first | exact rfl | (exfalso; omega))
    · skip
      refine lv_if_ne (tgt := 17) hx hb dX10_paste_11 (by decide) (fun c15 => absurd (by decide) c15) (fun c15 => ?_)
      refine lv_bipush (v := (-2)) hx hb dX10_paste_14 (by decide) ?_
      exact hret _ _ _ _ (-2) () hP hD hS dX10_paste_16 (by (repeat' split) <;> first | exact rfl | (exfalso; omega))
  · skip
    refine lv_if_eq (tgt := 14) hx hb dX10_paste_4 (by decide) (fun c16 => ?_) (fun c16 => absurd (by decide) c16)
    refine lv_bipush (v := (-2)) hx hb dX10_paste_14 (by decide) ?_
    exact hret _ _ _ _ (-2) () hP hD hS dX10_paste_16 (by (repeat' split) <;> first | exact rfl | (exfalso; omega))
