theorem dX9_anew_0 : decode cX9_anew 0 = .ok (.aload_n 0, 1) := by decide +kernel
theorem dX9_anew_1 : decode cX9_anew 1 = .ok (.getfield 19, 3) := by decide +kernel
theorem dX9_anew_4 : decode cX9_anew 4 = .ok (.getfield 106, 3) := by decide +kernel
theorem dX9_anew_7 : decode cX9_anew 7 = .ok (.ifCond .ne 6, 3) := by decide +kernel
theorem dX9_anew_10 : decode cX9_anew 10 = .ok (.bipush (-2), 2) := by decide +kernel
theorem dX9_anew_12 : decode cX9_anew 12 = .ok (.ireturn, 1) := by decide +kernel
theorem dX9_areTwo_0 : decode cX9_areTwo 0 = .ok (.aload_n 0, 1) := by decide +kernel
theorem dX9_areTwo_1 : decode cX9_areTwo 1 = .ok (.getfield 19, 3) := by decide +kernel
theorem dX9_areTwo_4 : decode cX9_areTwo 4 = .ok (.iload_n 1, 1) := by decide +kernel
theorem dX9_areTwo_5 : decode cX9_areTwo 5 = .ok (.i2l, 1) := by decide +kernel
theorem dX9_areTwo_6 : decode cX9_areTwo 6 = .ok (.invokevirtual 128, 3) := by decide +kernel
theorem dX9_areTwo_9 : decode cX9_areTwo 9 = .ok (.ifCond .eq 24, 3) := by decide +kernel
theorem dX9_areTwo_33 : decode cX9_areTwo 33 = .ok (.iconst 0, 1) := by decide +kernel
theorem dX9_areTwo_34 : decode cX9_areTwo 34 = .ok (.ireturn, 1) := by decide +kernel
theorem dX9_ask_0 : decode cX9_ask 0 = .ok (.aload_n 0, 1) := by decide +kernel
theorem dX9_ask_1 : decode cX9_ask 1 = .ok (.iload_n 1, 1) := by decide +kernel
theorem dX9_ask_2 : decode cX9_ask 2 = .ok (.iload_n 2, 1) := by decide +kernel
theorem dX9_ask_3 : decode cX9_ask 3 = .ok (.invokevirtual 295, 3) := by decide +kernel
theorem dX9_ask_6 : decode cX9_ask 6 = .ok (.istore_n 3, 1) := by decide +kernel
theorem dX9_ask_7 : decode cX9_ask 7 = .ok (.iload_n 3, 1) := by decide +kernel
theorem dX9_ask_8 : decode cX9_ask 8 = .ok (.ifCond .eq 5, 3) := by decide +kernel
theorem dX9_ask_11 : decode cX9_ask 11 = .ok (.iload_n 3, 1) := by decide +kernel
theorem dX9_ask_12 : decode cX9_ask 12 = .ok (.ireturn, 1) := by decide +kernel
theorem dX9_at_0 : decode cX9_at 0 = .ok (.aload_n 0, 1) := by decide +kernel
theorem dX9_at_1 : decode cX9_at 1 = .ok (.getfield 19, 3) := by decide +kernel
theorem dX9_at_4 : decode cX9_at 4 = .ok (.iload_n 1, 1) := by decide +kernel
theorem dX9_at_5 : decode cX9_at 5 = .ok (.i2l, 1) := by decide +kernel
theorem dX9_at_6 : decode cX9_at 6 = .ok (.invokevirtual 128, 3) := by decide +kernel
theorem dX9_at_9 : decode cX9_at 9 = .ok (.ifCond .eq 11, 3) := by decide +kernel
theorem dX9_at_20 : decode cX9_at 20 = .ok (.bipush (-2), 2) := by decide +kernel
theorem dX9_at_22 : decode cX9_at 22 = .ok (.ireturn, 1) := by decide +kernel
theorem dX9_back_0 : decode cX9_back 0 = .ok (.iload_n 1, 1) := by decide +kernel
theorem dX9_back_1 : decode cX9_back 1 = .ok (.ifCond .lt 8, 3) := by decide +kernel
theorem dX9_back_4 : decode cX9_back 4 = .ok (.iload_n 1, 1) := by decide +kernel
theorem dX9_back_5 : decode cX9_back 5 = .ok (.iconst 3, 1) := by decide +kernel
theorem dX9_back_6 : decode cX9_back 6 = .ok (.if_icmp .lt 6, 3) := by decide +kernel
theorem dX9_back_9 : decode cX9_back 9 = .ok (.bipush (-2), 2) := by decide +kernel
theorem dX9_back_11 : decode cX9_back 11 = .ok (.ireturn, 1) := by decide +kernel
theorem dX9_back_12 : decode cX9_back 12 = .ok (.aload_n 0, 1) := by decide +kernel
theorem dX9_back_13 : decode cX9_back 13 = .ok (.getfield 23, 3) := by decide +kernel
theorem dX9_back_16 : decode cX9_back 16 = .ok (.iload_n 1, 1) := by decide +kernel
theorem dX9_back_17 : decode cX9_back 17 = .ok (.aaload, 1) := by decide +kernel
theorem dX9_back_18 : decode cX9_back 18 = .ok (.ifnonnull 6, 3) := by decide +kernel
theorem dX9_back_21 : decode cX9_back 21 = .ok (.bipush (-6), 2) := by decide +kernel
theorem dX9_back_23 : decode cX9_back 23 = .ok (.ireturn, 1) := by decide +kernel
theorem dX9_beeline_0 : decode cX9_beeline 0 = .ok (.aload_n 0, 1) := by decide +kernel
theorem dX9_beeline_1 : decode cX9_beeline 1 = .ok (.getfield 19, 3) := by decide +kernel
theorem dX9_beeline_4 : decode cX9_beeline 4 = .ok (.iload_n 1, 1) := by decide +kernel
theorem dX9_beeline_5 : decode cX9_beeline 5 = .ok (.i2l, 1) := by decide +kernel
theorem dX9_beeline_6 : decode cX9_beeline 6 = .ok (.invokevirtual 112, 3) := by decide +kernel
theorem dX9_beeline_9 : decode cX9_beeline 9 = .ok (.istore_n 3, 1) := by decide +kernel
theorem dX9_beeline_10 : decode cX9_beeline 10 = .ok (.aload_n 0, 1) := by decide +kernel
theorem dX9_beeline_11 : decode cX9_beeline 11 = .ok (.getfield 19, 3) := by decide +kernel
theorem dX9_beeline_14 : decode cX9_beeline 14 = .ok (.iload_n 2, 1) := by decide +kernel
theorem dX9_beeline_15 : decode cX9_beeline 15 = .ok (.i2l, 1) := by decide +kernel
theorem dX9_beeline_16 : decode cX9_beeline 16 = .ok (.invokevirtual 112, 3) := by decide +kernel
theorem dX9_beeline_19 : decode cX9_beeline 19 = .ok (.istore 4, 2) := by decide +kernel
theorem dX9_beeline_21 : decode cX9_beeline 21 = .ok (.iload_n 3, 1) := by decide +kernel
theorem dX9_beeline_22 : decode cX9_beeline 22 = .ok (.iconst (-1), 1) := by decide +kernel
theorem dX9_beeline_23 : decode cX9_beeline 23 = .ok (.if_icmp .eq 9, 3) := by decide +kernel
theorem dX9_beeline_32 : decode cX9_beeline 32 = .ok (.bipush (-2), 2) := by decide +kernel
theorem dX9_beeline_34 : decode cX9_beeline 34 = .ok (.ireturn, 1) := by decide +kernel
theorem dX9_blame_0 : decode cX9_blame 0 = .ok (.aload_n 0, 1) := by decide +kernel
theorem dX9_blame_1 : decode cX9_blame 1 = .ok (.getfield 19, 3) := by decide +kernel
theorem dX9_blame_4 : decode cX9_blame 4 = .ok (.getfield 106, 3) := by decide +kernel
theorem dX9_blame_7 : decode cX9_blame 7 = .ok (.ifCond .ne 6, 3) := by decide +kernel
theorem dX9_blame_10 : decode cX9_blame 10 = .ok (.bipush (-2), 2) := by decide +kernel
theorem dX9_blame_12 : decode cX9_blame 12 = .ok (.ireturn, 1) := by decide +kernel
theorem dX9_bridge_0 : decode cX9_bridge 0 = .ok (.aload_n 0, 1) := by decide +kernel
theorem dX9_bridge_1 : decode cX9_bridge 1 = .ok (.getfield 19, 3) := by decide +kernel
theorem dX9_bridge_4 : decode cX9_bridge 4 = .ok (.iload_n 1, 1) := by decide +kernel
theorem dX9_bridge_5 : decode cX9_bridge 5 = .ok (.i2l, 1) := by decide +kernel
theorem dX9_bridge_6 : decode cX9_bridge 6 = .ok (.invokevirtual 112, 3) := by decide +kernel
theorem dX9_bridge_9 : decode cX9_bridge 9 = .ok (.istore_n 2, 1) := by decide +kernel
theorem dX9_bridge_10 : decode cX9_bridge 10 = .ok (.iload_n 2, 1) := by decide +kernel
theorem dX9_bridge_11 : decode cX9_bridge 11 = .ok (.iconst (-1), 1) := by decide +kernel
theorem dX9_bridge_12 : decode cX9_bridge 12 = .ok (.if_icmp .ne 6, 3) := by decide +kernel
theorem dX9_bridge_15 : decode cX9_bridge 15 = .ok (.bipush (-2), 2) := by decide +kernel
theorem dX9_bridge_17 : decode cX9_bridge 17 = .ok (.ireturn, 1) := by decide +kernel
theorem dX9_bridges_0 : decode cX9_bridges 0 = .ok (.aload_n 0, 1) := by decide +kernel
theorem dX9_bridges_1 : decode cX9_bridges 1 = .ok (.getfield 19, 3) := by decide +kernel
theorem dX9_bridges_4 : decode cX9_bridges 4 = .ok (.iload_n 1, 1) := by decide +kernel
theorem dX9_bridges_5 : decode cX9_bridges 5 = .ok (.invokevirtual 183, 3) := by decide +kernel
theorem dX9_bridges_8 : decode cX9_bridges 8 = .ok (.ifCond .ne 6, 3) := by decide +kernel
theorem dX9_bridges_11 : decode cX9_bridges 11 = .ok (.bipush (-2), 2) := by decide +kernel
theorem dX9_bridges_13 : decode cX9_bridges 13 = .ok (.ireturn, 1) := by decide +kernel
theorem dX9_by_0 : decode cX9_by 0 = .ok (.aload_n 0, 1) := by decide +kernel
theorem dX9_by_1 : decode cX9_by 1 = .ok (.getfield 19, 3) := by decide +kernel
theorem dX9_by_4 : decode cX9_by 4 = .ok (.getfield 106, 3) := by decide +kernel
theorem dX9_by_7 : decode cX9_by 7 = .ok (.ifCond .eq 12, 3) := by decide +kernel
theorem dX9_by_19 : decode cX9_by 19 = .ok (.bipush (-2), 2) := by decide +kernel
theorem dX9_by_21 : decode cX9_by 21 = .ok (.ireturn, 1) := by decide +kernel
theorem dX9_chance_0 : decode cX9_chance 0 = .ok (.aload_n 0, 1) := by decide +kernel
theorem dX9_chance_1 : decode cX9_chance 1 = .ok (.getfield 19, 3) := by decide +kernel
theorem dX9_chance_4 : decode cX9_chance 4 = .ok (.iload_n 1, 1) := by decide +kernel
theorem dX9_chance_5 : decode cX9_chance 5 = .ok (.i2l, 1) := by decide +kernel
theorem dX9_chance_6 : decode cX9_chance 6 = .ok (.invokevirtual 112, 3) := by decide +kernel
theorem dX9_chance_9 : decode cX9_chance 9 = .ok (.istore_n 3, 1) := by decide +kernel
theorem dX9_chance_10 : decode cX9_chance 10 = .ok (.iload_n 3, 1) := by decide +kernel
theorem dX9_chance_11 : decode cX9_chance 11 = .ok (.iconst (-1), 1) := by decide +kernel
theorem dX9_chance_12 : decode cX9_chance 12 = .ok (.if_icmp .eq 10, 3) := by decide +kernel
theorem dX9_chance_22 : decode cX9_chance 22 = .ok (.ldc2_w 349, 3) := by decide +kernel
theorem dX9_chance_25 : decode cX9_chance 25 = .ok (.lreturn, 1) := by decide +kernel
theorem dX9_colony_0 : decode cX9_colony 0 = .ok (.aload_n 0, 1) := by decide +kernel
theorem dX9_colony_1 : decode cX9_colony 1 = .ok (.getfield 12, 3) := by decide +kernel
theorem dX9_colony_4 : decode cX9_colony 4 = .ok (.invokevirtual 90, 3) := by decide +kernel
theorem dX9_colony_7 : decode cX9_colony 7 = .ok (.aload_n 0, 1) := by decide +kernel
theorem dX9_colony_8 : decode cX9_colony 8 = .ok (.getfield 12, 3) := by decide +kernel
theorem dX9_colony_11 : decode cX9_colony 11 = .ok (.getfield 93, 3) := by decide +kernel
theorem dX9_colony_14 : decode cX9_colony 14 = .ok (.ifCond .eq 6, 3) := by decide +kernel
theorem dX9_colony_20 : decode cX9_colony 20 = .ok (.aload_n 0, 1) := by decide +kernel
theorem dX9_colony_21 : decode cX9_colony 21 = .ok (.getfield 12, 3) := by decide +kernel
theorem dX9_colony_24 : decode cX9_colony 24 = .ok (.getfield 76, 3) := by decide +kernel
theorem dX9_colony_27 : decode cX9_colony 27 = .ok (.iconst 0, 1) := by decide +kernel
theorem dX9_colony_28 : decode cX9_colony 28 = .ok (.putfield 80, 3) := by decide +kernel
theorem dX9_colony_31 : decode cX9_colony 31 = .ok (.aload_n 0, 1) := by decide +kernel
theorem dX9_colony_32 : decode cX9_colony 32 = .ok (.getfield 19, 3) := by decide +kernel
theorem dX9_colony_35 : decode cX9_colony 35 = .ok (.aload_n 0, 1) := by decide +kernel
theorem dX9_colony_36 : decode cX9_colony 36 = .ok (.getfield 12, 3) := by decide +kernel
theorem dX9_colony_39 : decode cX9_colony 39 = .ok (.getfield 96, 3) := by decide +kernel
theorem dX9_colony_42 : decode cX9_colony 42 = .ok (.invokevirtual 99, 3) := by decide +kernel
theorem dX9_colony_45 : decode cX9_colony 45 = .ok (.aload_n 0, 1) := by decide +kernel
theorem dX9_colony_46 : decode cX9_colony 46 = .ok (.invokevirtual 103, 3) := by decide +kernel
theorem dX9_colony_49 : decode cX9_colony 49 = .ok (.aload_n 0, 1) := by decide +kernel
theorem dX9_colony_50 : decode cX9_colony 50 = .ok (.getfield 19, 3) := by decide +kernel
theorem dX9_colony_53 : decode cX9_colony 53 = .ok (.getfield 106, 3) := by decide +kernel
theorem dX9_colony_56 : decode cX9_colony 56 = .ok (.ireturn, 1) := by decide +kernel
theorem dX9_corners_0 : decode cX9_corners 0 = .ok (.iload_n 1, 1) := by decide +kernel
theorem dX9_corners_1 : decode cX9_corners 1 = .ok (.ifCond .lt 19, 3) := by decide +kernel
theorem dX9_corners_4 : decode cX9_corners 4 = .ok (.iload_n 1, 1) := by decide +kernel
theorem dX9_corners_5 : decode cX9_corners 5 = .ok (.iconst 4, 1) := by decide +kernel
theorem dX9_corners_6 : decode cX9_corners 6 = .ok (.if_icmp .gt 14, 3) := by decide +kernel
theorem dX9_corners_9 : decode cX9_corners 9 = .ok (.aload_n 0, 1) := by decide +kernel
theorem dX9_corners_10 : decode cX9_corners 10 = .ok (.getfield 19, 3) := by decide +kernel
theorem dX9_corners_13 : decode cX9_corners 13 = .ok (.iload_n 2, 1) := by decide +kernel
theorem dX9_corners_14 : decode cX9_corners 14 = .ok (.invokevirtual 183, 3) := by decide +kernel
theorem dX9_corners_17 : decode cX9_corners 17 = .ok (.ifCond .ne 6, 3) := by decide +kernel
theorem dX9_corners_20 : decode cX9_corners 20 = .ok (.bipush (-2), 2) := by decide +kernel
theorem dX9_corners_22 : decode cX9_corners 22 = .ok (.ireturn, 1) := by decide +kernel
theorem dX9_count_0 : decode cX9_count 0 = .ok (.iload_n 1, 1) := by decide +kernel
theorem dX9_count_1 : decode cX9_count 1 = .ok (.tableswitch 162 0 11 #[63, 71, 79, 87, 95, 103, 111, 119, 127, 135, 143, 154], 63) := by decide +kernel
theorem dX9_count_64 : decode cX9_count 64 = .ok (.aload_n 0, 1) := by decide +kernel
theorem dX9_count_65 : decode cX9_count 65 = .ok (.getfield 19, 3) := by decide +kernel
theorem dX9_count_68 : decode cX9_count 68 = .ok (.getfield 186, 3) := by decide +kernel
theorem dX9_count_71 : decode cX9_count 71 = .ok (.ireturn, 1) := by decide +kernel
theorem dX9_count_72 : decode cX9_count 72 = .ok (.aload_n 0, 1) := by decide +kernel
theorem dX9_count_73 : decode cX9_count 73 = .ok (.getfield 19, 3) := by decide +kernel
theorem dX9_count_76 : decode cX9_count 76 = .ok (.getfield 373, 3) := by decide +kernel
theorem dX9_count_79 : decode cX9_count 79 = .ok (.ireturn, 1) := by decide +kernel
theorem dX9_count_80 : decode cX9_count 80 = .ok (.aload_n 0, 1) := by decide +kernel
theorem dX9_count_81 : decode cX9_count 81 = .ok (.getfield 19, 3) := by decide +kernel
theorem dX9_count_84 : decode cX9_count 84 = .ok (.getfield 376, 3) := by decide +kernel
theorem dX9_count_87 : decode cX9_count 87 = .ok (.ireturn, 1) := by decide +kernel
theorem dX9_count_88 : decode cX9_count 88 = .ok (.aload_n 0, 1) := by decide +kernel
theorem dX9_count_89 : decode cX9_count 89 = .ok (.getfield 19, 3) := by decide +kernel
theorem dX9_count_92 : decode cX9_count 92 = .ok (.getfield 379, 3) := by decide +kernel
theorem dX9_count_95 : decode cX9_count 95 = .ok (.ireturn, 1) := by decide +kernel
theorem dX9_count_96 : decode cX9_count 96 = .ok (.aload_n 0, 1) := by decide +kernel
theorem dX9_count_97 : decode cX9_count 97 = .ok (.getfield 19, 3) := by decide +kernel
theorem dX9_count_100 : decode cX9_count 100 = .ok (.getfield 382, 3) := by decide +kernel
theorem dX9_count_103 : decode cX9_count 103 = .ok (.ireturn, 1) := by decide +kernel
theorem dX9_count_104 : decode cX9_count 104 = .ok (.aload_n 0, 1) := by decide +kernel
theorem dX9_count_105 : decode cX9_count 105 = .ok (.getfield 19, 3) := by decide +kernel
theorem dX9_count_108 : decode cX9_count 108 = .ok (.getfield 281, 3) := by decide +kernel
theorem dX9_count_111 : decode cX9_count 111 = .ok (.ireturn, 1) := by decide +kernel
theorem dX9_count_112 : decode cX9_count 112 = .ok (.aload_n 0, 1) := by decide +kernel
theorem dX9_count_113 : decode cX9_count 113 = .ok (.getfield 19, 3) := by decide +kernel
theorem dX9_count_116 : decode cX9_count 116 = .ok (.getfield 259, 3) := by decide +kernel
theorem dX9_count_119 : decode cX9_count 119 = .ok (.ireturn, 1) := by decide +kernel
theorem dX9_count_120 : decode cX9_count 120 = .ok (.aload_n 0, 1) := by decide +kernel
theorem dX9_count_121 : decode cX9_count 121 = .ok (.getfield 19, 3) := by decide +kernel
theorem dX9_count_124 : decode cX9_count 124 = .ok (.getfield 189, 3) := by decide +kernel
theorem dX9_count_127 : decode cX9_count 127 = .ok (.ireturn, 1) := by decide +kernel
theorem dX9_count_128 : decode cX9_count 128 = .ok (.aload_n 0, 1) := by decide +kernel
theorem dX9_count_129 : decode cX9_count 129 = .ok (.getfield 19, 3) := by decide +kernel
theorem dX9_count_132 : decode cX9_count 132 = .ok (.getfield 361, 3) := by decide +kernel
theorem dX9_count_135 : decode cX9_count 135 = .ok (.ireturn, 1) := by decide +kernel
theorem dX9_count_136 : decode cX9_count 136 = .ok (.aload_n 0, 1) := by decide +kernel
theorem dX9_count_137 : decode cX9_count 137 = .ok (.getfield 19, 3) := by decide +kernel
theorem dX9_count_140 : decode cX9_count 140 = .ok (.getfield 106, 3) := by decide +kernel
theorem dX9_count_143 : decode cX9_count 143 = .ok (.ireturn, 1) := by decide +kernel
theorem dX9_count_144 : decode cX9_count 144 = .ok (.aload_n 0, 1) := by decide +kernel
theorem dX9_count_145 : decode cX9_count 145 = .ok (.getfield 12, 3) := by decide +kernel
theorem dX9_count_148 : decode cX9_count 148 = .ok (.getfield 76, 3) := by decide +kernel
theorem dX9_count_151 : decode cX9_count 151 = .ok (.getfield 80, 3) := by decide +kernel
theorem dX9_count_154 : decode cX9_count 154 = .ok (.ireturn, 1) := by decide +kernel
theorem dX9_count_155 : decode cX9_count 155 = .ok (.aload_n 0, 1) := by decide +kernel
theorem dX9_count_156 : decode cX9_count 156 = .ok (.getfield 61, 3) := by decide +kernel
theorem dX9_count_159 : decode cX9_count 159 = .ok (.invokevirtual 385, 3) := by decide +kernel
theorem dX9_count_162 : decode cX9_count 162 = .ok (.ireturn, 1) := by decide +kernel
theorem dX9_count_163 : decode cX9_count 163 = .ok (.iconst (-1), 1) := by decide +kernel
theorem dX9_count_164 : decode cX9_count 164 = .ok (.ireturn, 1) := by decide +kernel
theorem dX9_cover_0 : decode cX9_cover 0 = .ok (.aload_n 0, 1) := by decide +kernel
theorem dX9_cover_1 : decode cX9_cover 1 = .ok (.getfield 19, 3) := by decide +kernel
theorem dX9_cover_4 : decode cX9_cover 4 = .ok (.getfield 106, 3) := by decide +kernel
theorem dX9_cover_7 : decode cX9_cover 7 = .ok (.ifCond .ne 8, 3) := by decide +kernel
theorem dX9_cover_10 : decode cX9_cover 10 = .ok (.bipush (-2), 2) := by decide +kernel
theorem dX9_cover_12 : decode cX9_cover 12 = .ok (.goto 10, 3) := by decide +kernel
theorem dX9_cover_22 : decode cX9_cover 22 = .ok (.ireturn, 1) := by decide +kernel
theorem dX9_covers_0 : decode cX9_covers 0 = .ok (.aload_n 0, 1) := by decide +kernel
theorem dX9_covers_1 : decode cX9_covers 1 = .ok (.getfield 19, 3) := by decide +kernel
theorem dX9_covers_4 : decode cX9_covers 4 = .ok (.getfield 106, 3) := by decide +kernel
theorem dX9_covers_7 : decode cX9_covers 7 = .ok (.ifCond .ne 8, 3) := by decide +kernel
theorem dX9_covers_10 : decode cX9_covers 10 = .ok (.bipush (-2), 2) := by decide +kernel
theorem dX9_covers_12 : decode cX9_covers 12 = .ok (.goto 7, 3) := by decide +kernel
theorem dX9_covers_19 : decode cX9_covers 19 = .ok (.ireturn, 1) := by decide +kernel
theorem dX9_creek_0 : decode cX9_creek 0 = .ok (.aload_n 0, 1) := by decide +kernel
theorem dX9_creek_1 : decode cX9_creek 1 = .ok (.getfield 19, 3) := by decide +kernel
theorem dX9_creek_4 : decode cX9_creek 4 = .ok (.iload_n 1, 1) := by decide +kernel
theorem dX9_creek_5 : decode cX9_creek 5 = .ok (.i2l, 1) := by decide +kernel
theorem dX9_creek_6 : decode cX9_creek 6 = .ok (.invokevirtual 112, 3) := by decide +kernel
theorem dX9_creek_9 : decode cX9_creek 9 = .ok (.istore_n 2, 1) := by decide +kernel
theorem dX9_creek_10 : decode cX9_creek 10 = .ok (.iload_n 2, 1) := by decide +kernel
theorem dX9_creek_11 : decode cX9_creek 11 = .ok (.iconst (-1), 1) := by decide +kernel
theorem dX9_creek_12 : decode cX9_creek 12 = .ok (.if_icmp .ne 6, 3) := by decide +kernel
theorem dX9_creek_15 : decode cX9_creek 15 = .ok (.bipush (-2), 2) := by decide +kernel
theorem dX9_creek_17 : decode cX9_creek 17 = .ok (.ireturn, 1) := by decide +kernel
theorem dX9_crossing_0 : decode cX9_crossing 0 = .ok (.aload_n 0, 1) := by decide +kernel
theorem dX9_crossing_1 : decode cX9_crossing 1 = .ok (.getfield 19, 3) := by decide +kernel
theorem dX9_crossing_4 : decode cX9_crossing 4 = .ok (.getfield 106, 3) := by decide +kernel
theorem dX9_crossing_7 : decode cX9_crossing 7 = .ok (.ifCond .ne 6, 3) := by decide +kernel
theorem dX9_crossing_10 : decode cX9_crossing 10 = .ok (.bipush (-2), 2) := by decide +kernel
theorem dX9_crossing_12 : decode cX9_crossing 12 = .ok (.ireturn, 1) := by decide +kernel
theorem dX9_drawn_0 : decode cX9_drawn 0 = .ok (.aload_n 0, 1) := by decide +kernel
theorem dX9_drawn_1 : decode cX9_drawn 1 = .ok (.getfield 19, 3) := by decide +kernel
theorem dX9_drawn_4 : decode cX9_drawn 4 = .ok (.getfield 106, 3) := by decide +kernel
theorem dX9_drawn_7 : decode cX9_drawn 7 = .ok (.ifCond .eq 17, 3) := by decide +kernel
theorem dX9_drawn_24 : decode cX9_drawn 24 = .ok (.bipush (-2), 2) := by decide +kernel
theorem dX9_drawn_26 : decode cX9_drawn 26 = .ok (.ireturn, 1) := by decide +kernel
theorem dX9_end_0 : decode cX9_end 0 = .ok (.iload_n 1, 1) := by decide +kernel
theorem dX9_end_1 : decode cX9_end 1 = .ok (.ifCond .lt 17, 3) := by decide +kernel
theorem dX9_end_4 : decode cX9_end 4 = .ok (.iload_n 1, 1) := by decide +kernel
theorem dX9_end_5 : decode cX9_end 5 = .ok (.aload_n 0, 1) := by decide +kernel
theorem dX9_end_6 : decode cX9_end 6 = .ok (.getfield 12, 3) := by decide +kernel
theorem dX9_end_9 : decode cX9_end 9 = .ok (.getfield 76, 3) := by decide +kernel
theorem dX9_end_12 : decode cX9_end 12 = .ok (.getfield 80, 3) := by decide +kernel
theorem dX9_end_15 : decode cX9_end 15 = .ok (.if_icmp .le 5, 3) := by decide +kernel
theorem dX9_end_18 : decode cX9_end 18 = .ok (.iconst (-1), 1) := by decide +kernel
theorem dX9_end_19 : decode cX9_end 19 = .ok (.ireturn, 1) := by decide +kernel
theorem dX9_end_20 : decode cX9_end 20 = .ok (.aload_n 0, 1) := by decide +kernel
theorem dX9_end_21 : decode cX9_end 21 = .ok (.getfield 12, 3) := by decide +kernel
theorem dX9_end_24 : decode cX9_end 24 = .ok (.getfield 76, 3) := by decide +kernel
theorem dX9_end_27 : decode cX9_end 27 = .ok (.iload_n 1, 1) := by decide +kernel
theorem dX9_end_28 : decode cX9_end 28 = .ok (.putfield 80, 3) := by decide +kernel
theorem dX9_end_31 : decode cX9_end 31 = .ok (.iload_n 1, 1) := by decide +kernel
theorem dX9_end_32 : decode cX9_end 32 = .ok (.ireturn, 1) := by decide +kernel
theorem dX9_evening_0 : decode cX9_evening 0 = .ok (.aload_n 0, 1) := by decide +kernel
theorem dX9_evening_1 : decode cX9_evening 1 = .ok (.getfield 19, 3) := by decide +kernel
theorem dX9_evening_4 : decode cX9_evening 4 = .ok (.iload_n 1, 1) := by decide +kernel
theorem dX9_evening_5 : decode cX9_evening 5 = .ok (.invokevirtual 183, 3) := by decide +kernel
theorem dX9_evening_8 : decode cX9_evening 8 = .ok (.ifCond .eq 14, 3) := by decide +kernel
theorem dX9_evening_22 : decode cX9_evening 22 = .ok (.bipush (-2), 2) := by decide +kernel
theorem dX9_evening_24 : decode cX9_evening 24 = .ok (.ireturn, 1) := by decide +kernel
theorem dX9_faced_0 : decode cX9_faced 0 = .ok (.aload_n 0, 1) := by decide +kernel
theorem dX9_faced_1 : decode cX9_faced 1 = .ok (.iload_n 1, 1) := by decide +kernel
theorem dX9_faced_2 : decode cX9_faced 2 = .ok (.iload_n 2, 1) := by decide +kernel
theorem dX9_faced_3 : decode cX9_faced 3 = .ok (.invokevirtual 295, 3) := by decide +kernel
theorem dX9_faced_6 : decode cX9_faced 6 = .ok (.istore_n 3, 1) := by decide +kernel
theorem dX9_faced_7 : decode cX9_faced 7 = .ok (.iload_n 3, 1) := by decide +kernel
theorem dX9_faced_8 : decode cX9_faced 8 = .ok (.ifCond .eq 7, 3) := by decide +kernel
theorem dX9_faced_11 : decode cX9_faced 11 = .ok (.iload_n 3, 1) := by decide +kernel
theorem dX9_faced_12 : decode cX9_faced 12 = .ok (.goto 9, 3) := by decide +kernel
theorem dX9_faced_21 : decode cX9_faced 21 = .ok (.ireturn, 1) := by decide +kernel
theorem dX9_farthest_0 : decode cX9_farthest 0 = .ok (.aload_n 0, 1) := by decide +kernel
theorem dX9_farthest_1 : decode cX9_farthest 1 = .ok (.getfield 19, 3) := by decide +kernel
theorem dX9_farthest_4 : decode cX9_farthest 4 = .ok (.iload_n 1, 1) := by decide +kernel
theorem dX9_farthest_5 : decode cX9_farthest 5 = .ok (.i2l, 1) := by decide +kernel
theorem dX9_farthest_6 : decode cX9_farthest 6 = .ok (.invokevirtual 112, 3) := by decide +kernel
theorem dX9_farthest_9 : decode cX9_farthest 9 = .ok (.istore_n 3, 1) := by decide +kernel
theorem dX9_farthest_10 : decode cX9_farthest 10 = .ok (.iload_n 3, 1) := by decide +kernel
theorem dX9_farthest_11 : decode cX9_farthest 11 = .ok (.iconst (-1), 1) := by decide +kernel
theorem dX9_farthest_12 : decode cX9_farthest 12 = .ok (.if_icmp .eq 14, 3) := by decide +kernel
theorem dX9_farthest_26 : decode cX9_farthest 26 = .ok (.bipush (-2), 2) := by decide +kernel
theorem dX9_farthest_28 : decode cX9_farthest 28 = .ok (.ireturn, 1) := by decide +kernel
theorem dX9_fault_0 : decode cX9_fault 0 = .ok (.iload_n 1, 1) := by decide +kernel
theorem dX9_fault_1 : decode cX9_fault 1 = .ok (.ifCond .ne 11, 3) := by decide +kernel
theorem dX9_fault_4 : decode cX9_fault 4 = .ok (.aload_n 0, 1) := by decide +kernel
theorem dX9_fault_5 : decode cX9_fault 5 = .ok (.getfield 12, 3) := by decide +kernel
theorem dX9_fault_8 : decode cX9_fault 8 = .ok (.getfield 93, 3) := by decide +kernel
theorem dX9_fault_11 : decode cX9_fault 11 = .ok (.ireturn, 1) := by decide +kernel
theorem dX9_fault_12 : decode cX9_fault 12 = .ok (.iload_n 1, 1) := by decide +kernel
theorem dX9_fault_13 : decode cX9_fault 13 = .ok (.iconst 1, 1) := by decide +kernel
theorem dX9_fault_14 : decode cX9_fault 14 = .ok (.if_icmp .ne 13, 3) := by decide +kernel
theorem dX9_fault_17 : decode cX9_fault 17 = .ok (.aload_n 0, 1) := by decide +kernel
theorem dX9_fault_18 : decode cX9_fault 18 = .ok (.getfield 12, 3) := by decide +kernel
theorem dX9_fault_21 : decode cX9_fault 21 = .ok (.getfield 109, 3) := by decide +kernel
theorem dX9_fault_24 : decode cX9_fault 24 = .ok (.goto 4, 3) := by decide +kernel
theorem dX9_fault_27 : decode cX9_fault 27 = .ok (.iconst (-1), 1) := by decide +kernel
theorem dX9_fault_28 : decode cX9_fault 28 = .ok (.ireturn, 1) := by decide +kernel
theorem dX9_feed_0 : decode cX9_feed 0 = .ok (.aload_n 0, 1) := by decide +kernel
theorem dX9_feed_1 : decode cX9_feed 1 = .ok (.getfield 12, 3) := by decide +kernel
theorem dX9_feed_4 : decode cX9_feed 4 = .ok (.getfield 76, 3) := by decide +kernel
theorem dX9_feed_7 : decode cX9_feed 7 = .ok (.getfield 80, 3) := by decide +kernel
theorem dX9_feed_10 : decode cX9_feed 10 = .ok (.sipush 880, 3) := by decide +kernel
theorem dX9_feed_13 : decode cX9_feed 13 = .ok (.if_icmp .le 5, 3) := by decide +kernel
theorem dX9_feed_18 : decode cX9_feed 18 = .ok (.aload_n 0, 1) := by decide +kernel
theorem dX9_feed_19 : decode cX9_feed 19 = .ok (.getfield 12, 3) := by decide +kernel
theorem dX9_feed_22 : decode cX9_feed 22 = .ok (.getfield 76, 3) := by decide +kernel
theorem dX9_feed_25 : decode cX9_feed 25 = .ok (.iload_n 1, 1) := by decide +kernel
theorem dX9_feed_26 : decode cX9_feed 26 = .ok (.invokevirtual 86, 3) := by decide +kernel
theorem dX9_feed_29 : decode cX9_feed 29 = .ok (.aload_n 0, 1) := by decide +kernel
theorem dX9_feed_30 : decode cX9_feed 30 = .ok (.getfield 12, 3) := by decide +kernel
theorem dX9_feed_33 : decode cX9_feed 33 = .ok (.getfield 76, 3) := by decide +kernel
theorem dX9_feed_36 : decode cX9_feed 36 = .ok (.iload_n 2, 1) := by decide +kernel
theorem dX9_feed_37 : decode cX9_feed 37 = .ok (.invokevirtual 86, 3) := by decide +kernel
theorem dX9_feed_40 : decode cX9_feed 40 = .ok (.aload_n 0, 1) := by decide +kernel
theorem dX9_feed_41 : decode cX9_feed 41 = .ok (.getfield 12, 3) := by decide +kernel
theorem dX9_feed_44 : decode cX9_feed 44 = .ok (.getfield 76, 3) := by decide +kernel
theorem dX9_feed_47 : decode cX9_feed 47 = .ok (.iload_n 3, 1) := by decide +kernel
theorem dX9_feed_48 : decode cX9_feed 48 = .ok (.invokevirtual 86, 3) := by decide +kernel
theorem dX9_feed_51 : decode cX9_feed 51 = .ok (.aload_n 0, 1) := by decide +kernel
theorem dX9_feed_52 : decode cX9_feed 52 = .ok (.getfield 12, 3) := by decide +kernel
theorem dX9_feed_55 : decode cX9_feed 55 = .ok (.getfield 76, 3) := by decide +kernel
theorem dX9_feed_58 : decode cX9_feed 58 = .ok (.iload 4, 2) := by decide +kernel
theorem dX9_feed_60 : decode cX9_feed 60 = .ok (.invokevirtual 86, 3) := by decide +kernel
theorem dX9_feed_63 : decode cX9_feed 63 = .ok (.aload_n 0, 1) := by decide +kernel
theorem dX9_feed_64 : decode cX9_feed 64 = .ok (.getfield 12, 3) := by decide +kernel
theorem dX9_feed_67 : decode cX9_feed 67 = .ok (.getfield 76, 3) := by decide +kernel
theorem dX9_feed_70 : decode cX9_feed 70 = .ok (.iload 5, 2) := by decide +kernel
theorem dX9_feed_72 : decode cX9_feed 72 = .ok (.invokevirtual 86, 3) := by decide +kernel
theorem dX9_feed_75 : decode cX9_feed 75 = .ok (.aload_n 0, 1) := by decide +kernel
theorem dX9_feed_76 : decode cX9_feed 76 = .ok (.getfield 12, 3) := by decide +kernel
theorem dX9_feed_79 : decode cX9_feed 79 = .ok (.getfield 76, 3) := by decide +kernel
theorem dX9_feed_82 : decode cX9_feed 82 = .ok (.getfield 80, 3) := by decide +kernel
theorem dX9_feed_85 : decode cX9_feed 85 = .ok (.ireturn, 1) := by decide +kernel
theorem dX9_first_0 : decode cX9_first 0 = .ok (.aload_n 0, 1) := by decide +kernel
theorem dX9_first_1 : decode cX9_first 1 = .ok (.getfield 19, 3) := by decide +kernel
theorem dX9_first_4 : decode cX9_first 4 = .ok (.iload_n 1, 1) := by decide +kernel
theorem dX9_first_5 : decode cX9_first 5 = .ok (.i2l, 1) := by decide +kernel
theorem dX9_first_6 : decode cX9_first 6 = .ok (.invokevirtual 112, 3) := by decide +kernel
theorem dX9_first_9 : decode cX9_first 9 = .ok (.istore_n 2, 1) := by decide +kernel
theorem dX9_first_10 : decode cX9_first 10 = .ok (.iload_n 2, 1) := by decide +kernel
theorem dX9_first_11 : decode cX9_first 11 = .ok (.iconst (-1), 1) := by decide +kernel
theorem dX9_first_12 : decode cX9_first 12 = .ok (.if_icmp .ne 6, 3) := by decide +kernel
theorem dX9_first_15 : decode cX9_first 15 = .ok (.bipush (-2), 2) := by decide +kernel
theorem dX9_first_17 : decode cX9_first 17 = .ok (.ireturn, 1) := by decide +kernel
theorem dX9_ford_0 : decode cX9_ford 0 = .ok (.aload_n 0, 1) := by decide +kernel
theorem dX9_ford_1 : decode cX9_ford 1 = .ok (.getfield 19, 3) := by decide +kernel
theorem dX9_ford_4 : decode cX9_ford 4 = .ok (.getfield 106, 3) := by decide +kernel
theorem dX9_ford_7 : decode cX9_ford 7 = .ok (.ifCond .ne 6, 3) := by decide +kernel
theorem dX9_ford_10 : decode cX9_ford 10 = .ok (.bipush (-2), 2) := by decide +kernel
theorem dX9_ford_12 : decode cX9_ford 12 = .ok (.ireturn, 1) := by decide +kernel
theorem dX9_gets_0 : decode cX9_gets 0 = .ok (.aload_n 0, 1) := by decide +kernel
theorem dX9_gets_1 : decode cX9_gets 1 = .ok (.iload_n 1, 1) := by decide +kernel
theorem dX9_gets_2 : decode cX9_gets 2 = .ok (.iload_n 2, 1) := by decide +kernel
theorem dX9_gets_3 : decode cX9_gets 3 = .ok (.invokevirtual 341, 3) := by decide +kernel
theorem dX9_gets_6 : decode cX9_gets 6 = .ok (.ifCond .eq 18, 3) := by decide +kernel
theorem dX9_gets_24 : decode cX9_gets 24 = .ok (.sipush (-1000), 3) := by decide +kernel
theorem dX9_gets_27 : decode cX9_gets 27 = .ok (.ireturn, 1) := by decide +kernel
theorem dX9_grief_0 : decode cX9_grief 0 = .ok (.aload_n 0, 1) := by decide +kernel
theorem dX9_grief_1 : decode cX9_grief 1 = .ok (.getfield 19, 3) := by decide +kernel
theorem dX9_grief_4 : decode cX9_grief 4 = .ok (.iload_n 1, 1) := by decide +kernel
theorem dX9_grief_5 : decode cX9_grief 5 = .ok (.i2l, 1) := by decide +kernel
theorem dX9_grief_6 : decode cX9_grief 6 = .ok (.invokevirtual 128, 3) := by decide +kernel
theorem dX9_grief_9 : decode cX9_grief 9 = .ok (.ifCond .eq 7, 3) := by decide +kernel
theorem dX9_grief_16 : decode cX9_grief 16 = .ok (.bipush (-2), 2) := by decide +kernel
theorem dX9_grief_18 : decode cX9_grief 18 = .ok (.ireturn, 1) := by decide +kernel
theorem dX9_griefs_0 : decode cX9_griefs 0 = .ok (.aload_n 0, 1) := by decide +kernel
theorem dX9_griefs_1 : decode cX9_griefs 1 = .ok (.iload_n 1, 1) := by decide +kernel
theorem dX9_griefs_2 : decode cX9_griefs 2 = .ok (.iload_n 2, 1) := by decide +kernel
theorem dX9_griefs_3 : decode cX9_griefs 3 = .ok (.invokevirtual 295, 3) := by decide +kernel
theorem dX9_griefs_6 : decode cX9_griefs 6 = .ok (.istore_n 3, 1) := by decide +kernel
theorem dX9_griefs_7 : decode cX9_griefs 7 = .ok (.iload_n 3, 1) := by decide +kernel
theorem dX9_griefs_8 : decode cX9_griefs 8 = .ok (.ifCond .eq 5, 3) := by decide +kernel
theorem dX9_griefs_11 : decode cX9_griefs 11 = .ok (.iload_n 3, 1) := by decide +kernel
theorem dX9_griefs_12 : decode cX9_griefs 12 = .ok (.ireturn, 1) := by decide +kernel
theorem dX9_ground_0 : decode cX9_ground 0 = .ok (.aload_n 0, 1) := by decide +kernel
theorem dX9_ground_1 : decode cX9_ground 1 = .ok (.getfield 19, 3) := by decide +kernel
theorem dX9_ground_4 : decode cX9_ground 4 = .ok (.iload_n 1, 1) := by decide +kernel
theorem dX9_ground_5 : decode cX9_ground 5 = .ok (.i2l, 1) := by decide +kernel
theorem dX9_ground_6 : decode cX9_ground 6 = .ok (.invokevirtual 128, 3) := by decide +kernel
theorem dX9_ground_9 : decode cX9_ground 9 = .ok (.ifCond .ne 6, 3) := by decide +kernel
theorem dX9_ground_12 : decode cX9_ground 12 = .ok (.bipush (-2), 2) := by decide +kernel
theorem dX9_ground_14 : decode cX9_ground 14 = .ok (.ireturn, 1) := by decide +kernel
theorem dX9_haunt_0 : decode cX9_haunt 0 = .ok (.aload_n 0, 1) := by decide +kernel
theorem dX9_haunt_1 : decode cX9_haunt 1 = .ok (.getfield 19, 3) := by decide +kernel
theorem dX9_haunt_4 : decode cX9_haunt 4 = .ok (.iload_n 1, 1) := by decide +kernel
theorem dX9_haunt_5 : decode cX9_haunt 5 = .ok (.i2l, 1) := by decide +kernel
theorem dX9_haunt_6 : decode cX9_haunt 6 = .ok (.invokevirtual 128, 3) := by decide +kernel
theorem dX9_haunt_9 : decode cX9_haunt 9 = .ok (.ifCond .ne 6, 3) := by decide +kernel
theorem dX9_haunt_12 : decode cX9_haunt 12 = .ok (.bipush (-2), 2) := by decide +kernel
theorem dX9_haunt_14 : decode cX9_haunt 14 = .ok (.ireturn, 1) := by decide +kernel
theorem dX9_house_0 : decode cX9_house 0 = .ok (.aload_n 0, 1) := by decide +kernel
theorem dX9_house_1 : decode cX9_house 1 = .ok (.getfield 19, 3) := by decide +kernel
theorem dX9_house_4 : decode cX9_house 4 = .ok (.iload_n 1, 1) := by decide +kernel
theorem dX9_house_5 : decode cX9_house 5 = .ok (.invokevirtual 247, 3) := by decide +kernel
theorem dX9_house_8 : decode cX9_house 8 = .ok (.ifCond .eq 14, 3) := by decide +kernel
theorem dX9_house_22 : decode cX9_house 22 = .ok (.bipush (-2), 2) := by decide +kernel
theorem dX9_house_24 : decode cX9_house 24 = .ok (.ireturn, 1) := by decide +kernel
theorem dX9_image_0 : decode cX9_image 0 = .ok (.iload_n 1, 1) := by decide +kernel
theorem dX9_image_1 : decode cX9_image 1 = .ok (.ifCond .lt 8, 3) := by decide +kernel
theorem dX9_image_4 : decode cX9_image 4 = .ok (.iload_n 1, 1) := by decide +kernel
theorem dX9_image_5 : decode cX9_image 5 = .ok (.iconst 3, 1) := by decide +kernel
theorem dX9_image_6 : decode cX9_image 6 = .ok (.if_icmp .lt 6, 3) := by decide +kernel
theorem dX9_image_9 : decode cX9_image 9 = .ok (.bipush (-2), 2) := by decide +kernel
theorem dX9_image_11 : decode cX9_image 11 = .ok (.ireturn, 1) := by decide +kernel
theorem dX9_image_12 : decode cX9_image 12 = .ok (.aload_n 0, 1) := by decide +kernel
theorem dX9_image_13 : decode cX9_image 13 = .ok (.getfield 23, 3) := by decide +kernel
theorem dX9_image_16 : decode cX9_image 16 = .ok (.iload_n 1, 1) := by decide +kernel
theorem dX9_image_17 : decode cX9_image 17 = .ok (.aaload, 1) := by decide +kernel
theorem dX9_image_18 : decode cX9_image 18 = .ok (.ifnonnull 16, 3) := by decide +kernel
theorem dX9_image_21 : decode cX9_image 21 = .ok (.aload_n 0, 1) := by decide +kernel
theorem dX9_image_22 : decode cX9_image 22 = .ok (.getfield 23, 3) := by decide +kernel
theorem dX9_image_25 : decode cX9_image 25 = .ok (.iload_n 1, 1) := by decide +kernel
theorem dX9_image_26 : decode cX9_image 26 = .ok (.new 16, 3) := by decide +kernel
theorem dX9_image_29 : decode cX9_image 29 = .ok (.dup, 1) := by decide +kernel
theorem dX9_image_30 : decode cX9_image 30 = .ok (.invokespecial 18, 3) := by decide +kernel
theorem dX9_image_33 : decode cX9_image 33 = .ok (.aastore, 1) := by decide +kernel
theorem dX9_image_34 : decode cX9_image 34 = .ok (.aload_n 0, 1) := by decide +kernel
theorem dX9_image_35 : decode cX9_image 35 = .ok (.getfield 23, 3) := by decide +kernel
theorem dX9_image_38 : decode cX9_image 38 = .ok (.iload_n 1, 1) := by decide +kernel
theorem dX9_image_39 : decode cX9_image 39 = .ok (.aaload, 1) := by decide +kernel
theorem dX9_image_40 : decode cX9_image 40 = .ok (.aload_n 0, 1) := by decide +kernel
theorem dX9_image_41 : decode cX9_image 41 = .ok (.getfield 19, 3) := by decide +kernel
theorem dX9_image_44 : decode cX9_image 44 = .ok (.invokevirtual 99, 3) := by decide +kernel
theorem dX9_image_47 : decode cX9_image 47 = .ok (.iconst 0, 1) := by decide +kernel
theorem dX9_image_48 : decode cX9_image 48 = .ok (.ireturn, 1) := by decide +kernel
theorem dX9_isSlot_0 : decode cX9_isSlot 0 = .ok (.iload_n 0, 1) := by decide +kernel
theorem dX9_isSlot_1 : decode cX9_isSlot 1 = .ok (.ifCond .lt 12, 3) := by decide +kernel
theorem dX9_isSlot_4 : decode cX9_isSlot 4 = .ok (.iload_n 0, 1) := by decide +kernel
theorem dX9_isSlot_5 : decode cX9_isSlot 5 = .ok (.iconst 4, 1) := by decide +kernel
theorem dX9_isSlot_6 : decode cX9_isSlot 6 = .ok (.if_icmp .ge 7, 3) := by decide +kernel
theorem dX9_isSlot_9 : decode cX9_isSlot 9 = .ok (.iconst 1, 1) := by decide +kernel
theorem dX9_isSlot_10 : decode cX9_isSlot 10 = .ok (.goto 4, 3) := by decide +kernel
theorem dX9_isSlot_13 : decode cX9_isSlot 13 = .ok (.iconst 0, 1) := by decide +kernel
theorem dX9_isSlot_14 : decode cX9_isSlot 14 = .ok (.ireturn, 1) := by decide +kernel
theorem dX9_joins_0 : decode cX9_joins 0 = .ok (.aload_n 0, 1) := by decide +kernel
theorem dX9_joins_1 : decode cX9_joins 1 = .ok (.getfield 19, 3) := by decide +kernel
theorem dX9_joins_4 : decode cX9_joins 4 = .ok (.iload_n 1, 1) := by decide +kernel
theorem dX9_joins_5 : decode cX9_joins 5 = .ok (.i2l, 1) := by decide +kernel
theorem dX9_joins_6 : decode cX9_joins 6 = .ok (.invokevirtual 112, 3) := by decide +kernel
theorem dX9_joins_9 : decode cX9_joins 9 = .ok (.istore_n 3, 1) := by decide +kernel
theorem dX9_joins_10 : decode cX9_joins 10 = .ok (.iload_n 3, 1) := by decide +kernel
theorem dX9_joins_11 : decode cX9_joins 11 = .ok (.iconst (-1), 1) := by decide +kernel
theorem dX9_joins_12 : decode cX9_joins 12 = .ok (.if_icmp .eq 14, 3) := by decide +kernel
theorem dX9_joins_26 : decode cX9_joins 26 = .ok (.bipush (-2), 2) := by decide +kernel
theorem dX9_joins_28 : decode cX9_joins 28 = .ok (.ireturn, 1) := by decide +kernel
theorem dX9_keeps_0 : decode cX9_keeps 0 = .ok (.aload_n 0, 1) := by decide +kernel
theorem dX9_keeps_1 : decode cX9_keeps 1 = .ok (.getfield 19, 3) := by decide +kernel
theorem dX9_keeps_4 : decode cX9_keeps 4 = .ok (.iload_n 1, 1) := by decide +kernel
theorem dX9_keeps_5 : decode cX9_keeps 5 = .ok (.i2l, 1) := by decide +kernel
theorem dX9_keeps_6 : decode cX9_keeps 6 = .ok (.invokevirtual 128, 3) := by decide +kernel
theorem dX9_keeps_9 : decode cX9_keeps 9 = .ok (.ifCond .ne 6, 3) := by decide +kernel
theorem dX9_keeps_12 : decode cX9_keeps 12 = .ok (.bipush (-2), 2) := by decide +kernel
theorem dX9_keeps_14 : decode cX9_keeps 14 = .ok (.ireturn, 1) := by decide +kernel
theorem dX9_law_0 : decode cX9_law 0 = .ok (.aload_n 0, 1) := by decide +kernel
theorem dX9_law_1 : decode cX9_law 1 = .ok (.getfield 19, 3) := by decide +kernel
theorem dX9_law_4 : decode cX9_law 4 = .ok (.getfield 106, 3) := by decide +kernel
theorem dX9_law_7 : decode cX9_law 7 = .ok (.ifCond .ne 6, 3) := by decide +kernel
theorem dX9_law_10 : decode cX9_law 10 = .ok (.bipush (-2), 2) := by decide +kernel
theorem dX9_law_12 : decode cX9_law 12 = .ok (.ireturn, 1) := by decide +kernel
theorem dX9_laws_0 : decode cX9_laws 0 = .ok (.aload_n 0, 1) := by decide +kernel
theorem dX9_laws_1 : decode cX9_laws 1 = .ok (.iload_n 1, 1) := by decide +kernel
theorem dX9_laws_2 : decode cX9_laws 2 = .ok (.invokevirtual 317, 3) := by decide +kernel
theorem dX9_laws_5 : decode cX9_laws 5 = .ok (.istore_n 2, 1) := by decide +kernel
theorem dX9_laws_6 : decode cX9_laws 6 = .ok (.iload_n 2, 1) := by decide +kernel
theorem dX9_laws_7 : decode cX9_laws 7 = .ok (.ifCond .eq 5, 3) := by decide +kernel
theorem dX9_laws_10 : decode cX9_laws 10 = .ok (.iload_n 2, 1) := by decide +kernel
theorem dX9_laws_11 : decode cX9_laws 11 = .ok (.ireturn, 1) := by decide +kernel
theorem dX9_leaves_0 : decode cX9_leaves 0 = .ok (.aload_n 0, 1) := by decide +kernel
theorem dX9_leaves_1 : decode cX9_leaves 1 = .ok (.iload_n 1, 1) := by decide +kernel
theorem dX9_leaves_2 : decode cX9_leaves 2 = .ok (.iload_n 2, 1) := by decide +kernel
theorem dX9_leaves_3 : decode cX9_leaves 3 = .ok (.invokevirtual 295, 3) := by decide +kernel
theorem dX9_leaves_6 : decode cX9_leaves 6 = .ok (.istore_n 3, 1) := by decide +kernel
theorem dX9_leaves_7 : decode cX9_leaves 7 = .ok (.iload_n 3, 1) := by decide +kernel
theorem dX9_leaves_8 : decode cX9_leaves 8 = .ok (.ifCond .eq 5, 3) := by decide +kernel
theorem dX9_leaves_11 : decode cX9_leaves 11 = .ok (.iload_n 3, 1) := by decide +kernel
theorem dX9_leaves_12 : decode cX9_leaves 12 = .ok (.ireturn, 1) := by decide +kernel
theorem dX9_line_0 : decode cX9_line 0 = .ok (.aload_n 0, 1) := by decide +kernel
theorem dX9_line_1 : decode cX9_line 1 = .ok (.getfield 19, 3) := by decide +kernel
theorem dX9_line_4 : decode cX9_line 4 = .ok (.iload_n 1, 1) := by decide +kernel
theorem dX9_line_5 : decode cX9_line 5 = .ok (.invokevirtual 183, 3) := by decide +kernel
theorem dX9_line_8 : decode cX9_line 8 = .ok (.ifCond .ne 6, 3) := by decide +kernel
theorem dX9_line_11 : decode cX9_line 11 = .ok (.bipush (-2), 2) := by decide +kernel
theorem dX9_line_13 : decode cX9_line 13 = .ok (.ireturn, 1) := by decide +kernel
theorem dX9_loop_0 : decode cX9_loop 0 = .ok (.aload_n 0, 1) := by decide +kernel
theorem dX9_loop_1 : decode cX9_loop 1 = .ok (.getfield 19, 3) := by decide +kernel
theorem dX9_loop_4 : decode cX9_loop 4 = .ok (.iload_n 1, 1) := by decide +kernel
theorem dX9_loop_5 : decode cX9_loop 5 = .ok (.i2l, 1) := by decide +kernel
theorem dX9_loop_6 : decode cX9_loop 6 = .ok (.invokevirtual 128, 3) := by decide +kernel
theorem dX9_loop_9 : decode cX9_loop 9 = .ok (.ifCond .ne 6, 3) := by decide +kernel
theorem dX9_loop_12 : decode cX9_loop 12 = .ok (.bipush (-2), 2) := by decide +kernel
theorem dX9_loop_14 : decode cX9_loop 14 = .ok (.ireturn, 1) := by decide +kernel
theorem dX9_luck_0 : decode cX9_luck 0 = .ok (.aload_n 0, 1) := by decide +kernel
theorem dX9_luck_1 : decode cX9_luck 1 = .ok (.getfield 19, 3) := by decide +kernel
theorem dX9_luck_4 : decode cX9_luck 4 = .ok (.iload_n 3, 1) := by decide +kernel
theorem dX9_luck_5 : decode cX9_luck 5 = .ok (.i2l, 1) := by decide +kernel
theorem dX9_luck_6 : decode cX9_luck 6 = .ok (.invokevirtual 112, 3) := by decide +kernel
theorem dX9_luck_9 : decode cX9_luck 9 = .ok (.istore 4, 2) := by decide +kernel
theorem dX9_luck_11 : decode cX9_luck 11 = .ok (.iload 4, 2) := by decide +kernel
theorem dX9_luck_13 : decode cX9_luck 13 = .ok (.iconst (-1), 1) := by decide +kernel
theorem dX9_luck_14 : decode cX9_luck 14 = .ok (.if_icmp .eq 21, 3) := by decide +kernel
theorem dX9_luck_35 : decode cX9_luck 35 = .ok (.bipush (-2), 2) := by decide +kernel
theorem dX9_luck_37 : decode cX9_luck 37 = .ok (.ireturn, 1) := by decide +kernel
theorem dX9_mean_0 : decode cX9_mean 0 = .ok (.aload_n 0, 1) := by decide +kernel
theorem dX9_mean_1 : decode cX9_mean 1 = .ok (.getfield 19, 3) := by decide +kernel
theorem dX9_mean_4 : decode cX9_mean 4 = .ok (.getfield 106, 3) := by decide +kernel
theorem dX9_mean_7 : decode cX9_mean 7 = .ok (.ifCond .eq 10, 3) := by decide +kernel
theorem dX9_mean_17 : decode cX9_mean 17 = .ok (.ldc2_w 349, 3) := by decide +kernel
theorem dX9_mean_20 : decode cX9_mean 20 = .ok (.lreturn, 1) := by decide +kernel
theorem dX9_missing_0 : decode cX9_missing 0 = .ok (.aload_n 0, 1) := by decide +kernel
theorem dX9_missing_1 : decode cX9_missing 1 = .ok (.getfield 19, 3) := by decide +kernel
theorem dX9_missing_4 : decode cX9_missing 4 = .ok (.iload_n 1, 1) := by decide +kernel
theorem dX9_missing_5 : decode cX9_missing 5 = .ok (.invokevirtual 183, 3) := by decide +kernel
theorem dX9_missing_8 : decode cX9_missing 8 = .ok (.ifCond .ne 6, 3) := by decide +kernel
theorem dX9_missing_11 : decode cX9_missing 11 = .ok (.bipush (-2), 2) := by decide +kernel
theorem dX9_missing_13 : decode cX9_missing 13 = .ok (.ireturn, 1) := by decide +kernel
theorem dX9_moved_0 : decode cX9_moved 0 = .ok (.aload_n 0, 1) := by decide +kernel
theorem dX9_moved_1 : decode cX9_moved 1 = .ok (.getfield 19, 3) := by decide +kernel
theorem dX9_moved_4 : decode cX9_moved 4 = .ok (.iload_n 1, 1) := by decide +kernel
theorem dX9_moved_5 : decode cX9_moved 5 = .ok (.invokevirtual 247, 3) := by decide +kernel
theorem dX9_moved_8 : decode cX9_moved 8 = .ok (.ifCond .eq 15, 3) := by decide +kernel
theorem dX9_moved_23 : decode cX9_moved 23 = .ok (.bipush (-2), 2) := by decide +kernel
theorem dX9_moved_25 : decode cX9_moved 25 = .ok (.ireturn, 1) := by decide +kernel
theorem dX9_moves_0 : decode cX9_moves 0 = .ok (.aload_n 0, 1) := by decide +kernel
theorem dX9_moves_1 : decode cX9_moves 1 = .ok (.getfield 19, 3) := by decide +kernel
theorem dX9_moves_4 : decode cX9_moves 4 = .ok (.iload_n 1, 1) := by decide +kernel
theorem dX9_moves_5 : decode cX9_moves 5 = .ok (.i2l, 1) := by decide +kernel
theorem dX9_moves_6 : decode cX9_moves 6 = .ok (.invokevirtual 128, 3) := by decide +kernel
theorem dX9_moves_9 : decode cX9_moves 9 = .ok (.ifCond .ne 6, 3) := by decide +kernel
theorem dX9_moves_12 : decode cX9_moves 12 = .ok (.bipush (-2), 2) := by decide +kernel
theorem dX9_moves_14 : decode cX9_moves 14 = .ok (.ireturn, 1) := by decide +kernel
theorem dX9_net_0 : decode cX9_net 0 = .ok (.aload_n 0, 1) := by decide +kernel
theorem dX9_net_1 : decode cX9_net 1 = .ok (.getfield 19, 3) := by decide +kernel
theorem dX9_net_4 : decode cX9_net 4 = .ok (.iload_n 1, 1) := by decide +kernel
theorem dX9_net_5 : decode cX9_net 5 = .ok (.i2l, 1) := by decide +kernel
theorem dX9_net_6 : decode cX9_net 6 = .ok (.invokevirtual 112, 3) := by decide +kernel
theorem dX9_net_9 : decode cX9_net 9 = .ok (.istore_n 3, 1) := by decide +kernel
theorem dX9_net_10 : decode cX9_net 10 = .ok (.iload_n 3, 1) := by decide +kernel
theorem dX9_net_11 : decode cX9_net 11 = .ok (.iconst (-1), 1) := by decide +kernel
theorem dX9_net_12 : decode cX9_net 12 = .ok (.if_icmp .eq 14, 3) := by decide +kernel
theorem dX9_net_26 : decode cX9_net 26 = .ok (.bipush (-2), 2) := by decide +kernel
theorem dX9_net_28 : decode cX9_net 28 = .ok (.ireturn, 1) := by decide +kernel
theorem dX9_nets_0 : decode cX9_nets 0 = .ok (.aload_n 0, 1) := by decide +kernel
theorem dX9_nets_1 : decode cX9_nets 1 = .ok (.getfield 19, 3) := by decide +kernel
theorem dX9_nets_4 : decode cX9_nets 4 = .ok (.iload_n 1, 1) := by decide +kernel
theorem dX9_nets_5 : decode cX9_nets 5 = .ok (.invokevirtual 183, 3) := by decide +kernel
theorem dX9_nets_8 : decode cX9_nets 8 = .ok (.ifCond .ne 6, 3) := by decide +kernel
theorem dX9_nets_11 : decode cX9_nets 11 = .ok (.bipush (-2), 2) := by decide +kernel
theorem dX9_nets_13 : decode cX9_nets 13 = .ok (.ireturn, 1) := by decide +kernel
theorem dX9_paste_0 : decode cX9_paste 0 = .ok (.iload_n 1, 1) := by decide +kernel
theorem dX9_paste_1 : decode cX9_paste 1 = .ok (.invokestatic 388, 3) := by decide +kernel
theorem dX9_paste_4 : decode cX9_paste 4 = .ok (.ifCond .eq 10, 3) := by decide +kernel
theorem dX9_paste_7 : decode cX9_paste 7 = .ok (.iload_n 3, 1) := by decide +kernel
theorem dX9_paste_8 : decode cX9_paste 8 = .ok (.invokestatic 388, 3) := by decide +kernel
theorem dX9_paste_11 : decode cX9_paste 11 = .ok (.ifCond .ne 6, 3) := by decide +kernel
theorem dX9_paste_14 : decode cX9_paste 14 = .ok (.bipush (-2), 2) := by decide +kernel
theorem dX9_paste_16 : decode cX9_paste 16 = .ok (.ireturn, 1) := by decide +kernel
theorem dX9_paste_17 : decode cX9_paste 17 = .ok (.aload_n 0, 1) := by decide +kernel
theorem dX9_paste_18 : decode cX9_paste 18 = .ok (.getfield 61, 3) := by decide +kernel
theorem dX9_paste_21 : decode cX9_paste 21 = .ok (.iload_n 1, 1) := by decide +kernel
theorem dX9_paste_22 : decode cX9_paste 22 = .ok (.invokevirtual 395, 3) := by decide +kernel
theorem dX9_paste_25 : decode cX9_paste 25 = .ok (.ifCond .ne 14, 3) := by decide +kernel
theorem dX9_paste_39 : decode cX9_paste 39 = .ok (.bipush (-6), 2) := by decide +kernel
theorem dX9_paste_41 : decode cX9_paste 41 = .ok (.ireturn, 1) := by decide +kernel
theorem dX9_pegs_0 : decode cX9_pegs 0 = .ok (.aload_n 0, 1) := by decide +kernel
theorem dX9_pegs_1 : decode cX9_pegs 1 = .ok (.getfield 19, 3) := by decide +kernel
theorem dX9_pegs_4 : decode cX9_pegs 4 = .ok (.iload_n 1, 1) := by decide +kernel
theorem dX9_pegs_5 : decode cX9_pegs 5 = .ok (.invokevirtual 183, 3) := by decide +kernel
theorem dX9_pegs_8 : decode cX9_pegs 8 = .ok (.ifCond .eq 14, 3) := by decide +kernel
theorem dX9_pegs_22 : decode cX9_pegs 22 = .ok (.bipush (-2), 2) := by decide +kernel
theorem dX9_pegs_24 : decode cX9_pegs 24 = .ok (.ireturn, 1) := by decide +kernel
theorem dX9_rate_0 : decode cX9_rate 0 = .ok (.aload_n 0, 1) := by decide +kernel
theorem dX9_rate_1 : decode cX9_rate 1 = .ok (.getfield 19, 3) := by decide +kernel
theorem dX9_rate_4 : decode cX9_rate 4 = .ok (.iload_n 1, 1) := by decide +kernel
theorem dX9_rate_5 : decode cX9_rate 5 = .ok (.i2l, 1) := by decide +kernel
theorem dX9_rate_6 : decode cX9_rate 6 = .ok (.invokevirtual 128, 3) := by decide +kernel
theorem dX9_rate_9 : decode cX9_rate 9 = .ok (.ifCond .eq 14, 3) := by decide +kernel
theorem dX9_rate_23 : decode cX9_rate 23 = .ok (.bipush (-2), 2) := by decide +kernel
theorem dX9_rate_25 : decode cX9_rate 25 = .ok (.ireturn, 1) := by decide +kernel
theorem dX9_refusalOfRow_0 : decode cX9_refusalOfRow 0 = .ok (.aload_n 0, 1) := by decide +kernel
theorem dX9_refusalOfRow_1 : decode cX9_refusalOfRow 1 = .ok (.getfield 19, 3) := by decide +kernel
theorem dX9_refusalOfRow_4 : decode cX9_refusalOfRow 4 = .ok (.getfield 106, 3) := by decide +kernel
theorem dX9_refusalOfRow_7 : decode cX9_refusalOfRow 7 = .ok (.ifCond .eq 10, 3) := by decide +kernel
theorem dX9_refusalOfRow_17 : decode cX9_refusalOfRow 17 = .ok (.bipush (-2), 2) := by decide +kernel
theorem dX9_refusalOfRow_19 : decode cX9_refusalOfRow 19 = .ok (.ireturn, 1) := by decide +kernel
theorem dX9_refusalOfSeen_0 : decode cX9_refusalOfSeen 0 = .ok (.aload_n 0, 1) := by decide +kernel
theorem dX9_refusalOfSeen_1 : decode cX9_refusalOfSeen 1 = .ok (.getfield 19, 3) := by decide +kernel
theorem dX9_refusalOfSeen_4 : decode cX9_refusalOfSeen 4 = .ok (.iload_n 2, 1) := by decide +kernel
theorem dX9_refusalOfSeen_5 : decode cX9_refusalOfSeen 5 = .ok (.i2l, 1) := by decide +kernel
theorem dX9_refusalOfSeen_6 : decode cX9_refusalOfSeen 6 = .ok (.invokevirtual 128, 3) := by decide +kernel
theorem dX9_refusalOfSeen_9 : decode cX9_refusalOfSeen 9 = .ok (.ifCond .eq 11, 3) := by decide +kernel
theorem dX9_refusalOfSeen_20 : decode cX9_refusalOfSeen 20 = .ok (.bipush (-2), 2) := by decide +kernel
theorem dX9_refusalOfSeen_22 : decode cX9_refusalOfSeen 22 = .ok (.ireturn, 1) := by decide +kernel
theorem dX9_rests_0 : decode cX9_rests 0 = .ok (.aload_n 0, 1) := by decide +kernel
theorem dX9_rests_1 : decode cX9_rests 1 = .ok (.iload_n 1, 1) := by decide +kernel
theorem dX9_rests_2 : decode cX9_rests 2 = .ok (.iload_n 2, 1) := by decide +kernel
theorem dX9_rests_3 : decode cX9_rests 3 = .ok (.invokevirtual 341, 3) := by decide +kernel
theorem dX9_rests_6 : decode cX9_rests 6 = .ok (.ifCond .ne 6, 3) := by decide +kernel
theorem dX9_rests_9 : decode cX9_rests 9 = .ok (.bipush (-2), 2) := by decide +kernel
theorem dX9_rests_11 : decode cX9_rests 11 = .ok (.ireturn, 1) := by decide +kernel
theorem dX9_rings_0 : decode cX9_rings 0 = .ok (.aload_n 0, 1) := by decide +kernel
theorem dX9_rings_1 : decode cX9_rings 1 = .ok (.getfield 19, 3) := by decide +kernel
theorem dX9_rings_4 : decode cX9_rings 4 = .ok (.iload_n 1, 1) := by decide +kernel
theorem dX9_rings_5 : decode cX9_rings 5 = .ok (.invokevirtual 183, 3) := by decide +kernel
theorem dX9_rings_8 : decode cX9_rings 8 = .ok (.ifCond .ne 6, 3) := by decide +kernel
theorem dX9_rings_11 : decode cX9_rings 11 = .ok (.bipush (-2), 2) := by decide +kernel
theorem dX9_rings_13 : decode cX9_rings 13 = .ok (.ireturn, 1) := by decide +kernel
theorem dX9_road_0 : decode cX9_road 0 = .ok (.aload_n 0, 1) := by decide +kernel
theorem dX9_road_1 : decode cX9_road 1 = .ok (.getfield 19, 3) := by decide +kernel
theorem dX9_road_4 : decode cX9_road 4 = .ok (.iload_n 1, 1) := by decide +kernel
theorem dX9_road_5 : decode cX9_road 5 = .ok (.i2l, 1) := by decide +kernel
theorem dX9_road_6 : decode cX9_road 6 = .ok (.invokevirtual 112, 3) := by decide +kernel
theorem dX9_road_9 : decode cX9_road 9 = .ok (.istore_n 3, 1) := by decide +kernel
theorem dX9_road_10 : decode cX9_road 10 = .ok (.iload_n 3, 1) := by decide +kernel
theorem dX9_road_11 : decode cX9_road 11 = .ok (.iconst (-1), 1) := by decide +kernel
theorem dX9_road_12 : decode cX9_road 12 = .ok (.if_icmp .eq 14, 3) := by decide +kernel
theorem dX9_road_26 : decode cX9_road 26 = .ok (.bipush (-2), 2) := by decide +kernel
theorem dX9_road_28 : decode cX9_road 28 = .ok (.ireturn, 1) := by decide +kernel
theorem dX9_roads_0 : decode cX9_roads 0 = .ok (.aload_n 0, 1) := by decide +kernel
theorem dX9_roads_1 : decode cX9_roads 1 = .ok (.getfield 19, 3) := by decide +kernel
theorem dX9_roads_4 : decode cX9_roads 4 = .ok (.iload_n 1, 1) := by decide +kernel
theorem dX9_roads_5 : decode cX9_roads 5 = .ok (.invokevirtual 183, 3) := by decide +kernel
theorem dX9_roads_8 : decode cX9_roads 8 = .ok (.ifCond .eq 18, 3) := by decide +kernel
theorem dX9_roads_26 : decode cX9_roads 26 = .ok (.bipush (-2), 2) := by decide +kernel
theorem dX9_roads_28 : decode cX9_roads 28 = .ok (.ireturn, 1) := by decide +kernel
theorem dX9_row_0 : decode cX9_row 0 = .ok (.iload_n 1, 1) := by decide +kernel
theorem dX9_row_1 : decode cX9_row 1 = .ok (.invokestatic 388, 3) := by decide +kernel
theorem dX9_row_4 : decode cX9_row 4 = .ok (.ifCond .eq 18, 3) := by decide +kernel
theorem dX9_row_7 : decode cX9_row 7 = .ok (.iload_n 2, 1) := by decide +kernel
theorem dX9_row_8 : decode cX9_row 8 = .ok (.ifCond .lt 14, 3) := by decide +kernel
theorem dX9_row_11 : decode cX9_row 11 = .ok (.iload_n 2, 1) := by decide +kernel
theorem dX9_row_12 : decode cX9_row 12 = .ok (.iconst 3, 1) := by decide +kernel
theorem dX9_row_13 : decode cX9_row 13 = .ok (.if_icmp .gt 9, 3) := by decide +kernel
theorem dX9_row_16 : decode cX9_row 16 = .ok (.iload_n 3, 1) := by decide +kernel
theorem dX9_row_17 : decode cX9_row 17 = .ok (.bipush 60, 2) := by decide +kernel
theorem dX9_row_19 : decode cX9_row 19 = .ok (.if_icmp .le 6, 3) := by decide +kernel
theorem dX9_row_22 : decode cX9_row 22 = .ok (.bipush (-2), 2) := by decide +kernel
theorem dX9_row_24 : decode cX9_row 24 = .ok (.ireturn, 1) := by decide +kernel
theorem dX9_row_25 : decode cX9_row 25 = .ok (.iload_n 3, 1) := by decide +kernel
theorem dX9_row_26 : decode cX9_row 26 = .ok (.ifCond .ge 6, 3) := by decide +kernel
theorem dX9_row_29 : decode cX9_row 29 = .ok (.bipush (-3), 2) := by decide +kernel
theorem dX9_row_31 : decode cX9_row 31 = .ok (.ireturn, 1) := by decide +kernel
theorem dX9_row_32 : decode cX9_row 32 = .ok (.aload_n 0, 1) := by decide +kernel
theorem dX9_row_33 : decode cX9_row 33 = .ok (.getfield 61, 3) := by decide +kernel
theorem dX9_row_36 : decode cX9_row 36 = .ok (.iload_n 1, 1) := by decide +kernel
theorem dX9_row_37 : decode cX9_row 37 = .ok (.iload_n 2, 1) := by decide +kernel
theorem dX9_row_38 : decode cX9_row 38 = .ok (.iload_n 3, 1) := by decide +kernel
theorem dX9_row_39 : decode cX9_row 39 = .ok (.invokevirtual 391, 3) := by decide +kernel
theorem dX9_row_42 : decode cX9_row 42 = .ok (.iconst 0, 1) := by decide +kernel
theorem dX9_row_43 : decode cX9_row 43 = .ok (.ireturn, 1) := by decide +kernel
theorem dX9_served_0 : decode cX9_served 0 = .ok (.aload_n 0, 1) := by decide +kernel
theorem dX9_served_1 : decode cX9_served 1 = .ok (.getfield 19, 3) := by decide +kernel
theorem dX9_served_4 : decode cX9_served 4 = .ok (.iload_n 1, 1) := by decide +kernel
theorem dX9_served_5 : decode cX9_served 5 = .ok (.invokevirtual 183, 3) := by decide +kernel
theorem dX9_served_8 : decode cX9_served 8 = .ok (.ifCond .ne 6, 3) := by decide +kernel
theorem dX9_served_11 : decode cX9_served 11 = .ok (.bipush (-2), 2) := by decide +kernel
theorem dX9_served_13 : decode cX9_served 13 = .ok (.ireturn, 1) := by decide +kernel
theorem dX9_share_0 : decode cX9_share 0 = .ok (.aload_n 0, 1) := by decide +kernel
theorem dX9_share_1 : decode cX9_share 1 = .ok (.getfield 19, 3) := by decide +kernel
theorem dX9_share_4 : decode cX9_share 4 = .ok (.iload_n 1, 1) := by decide +kernel
theorem dX9_share_5 : decode cX9_share 5 = .ok (.i2l, 1) := by decide +kernel
theorem dX9_share_6 : decode cX9_share 6 = .ok (.invokevirtual 128, 3) := by decide +kernel
theorem dX9_share_9 : decode cX9_share 9 = .ok (.ifCond .eq 10, 3) := by decide +kernel
theorem dX9_share_19 : decode cX9_share 19 = .ok (.ldc_w 333, 3) := by decide +kernel
theorem dX9_share_22 : decode cX9_share 22 = .ok (.ireturn, 1) := by decide +kernel
theorem dX9_shared_0 : decode cX9_shared 0 = .ok (.aload_n 0, 1) := by decide +kernel
theorem dX9_shared_1 : decode cX9_shared 1 = .ok (.getfield 19, 3) := by decide +kernel
theorem dX9_shared_4 : decode cX9_shared 4 = .ok (.iload_n 1, 1) := by decide +kernel
theorem dX9_shared_5 : decode cX9_shared 5 = .ok (.i2l, 1) := by decide +kernel
theorem dX9_shared_6 : decode cX9_shared 6 = .ok (.invokevirtual 128, 3) := by decide +kernel
theorem dX9_shared_9 : decode cX9_shared 9 = .ok (.ifCond .eq 15, 3) := by decide +kernel
theorem dX9_shared_24 : decode cX9_shared 24 = .ok (.bipush (-2), 2) := by decide +kernel
theorem dX9_shared_26 : decode cX9_shared 26 = .ok (.ireturn, 1) := by decide +kernel
theorem dX9_stands_0 : decode cX9_stands 0 = .ok (.aload_n 0, 1) := by decide +kernel
theorem dX9_stands_1 : decode cX9_stands 1 = .ok (.getfield 19, 3) := by decide +kernel
theorem dX9_stands_4 : decode cX9_stands 4 = .ok (.iload_n 1, 1) := by decide +kernel
theorem dX9_stands_5 : decode cX9_stands 5 = .ok (.i2l, 1) := by decide +kernel
theorem dX9_stands_6 : decode cX9_stands 6 = .ok (.invokevirtual 128, 3) := by decide +kernel
theorem dX9_stands_9 : decode cX9_stands 9 = .ok (.ifCond .ne 6, 3) := by decide +kernel
theorem dX9_stands_12 : decode cX9_stands 12 = .ok (.bipush (-2), 2) := by decide +kernel
theorem dX9_stands_14 : decode cX9_stands 14 = .ok (.ireturn, 1) := by decide +kernel
theorem dX9_steps_0 : decode cX9_steps 0 = .ok (.aload_n 0, 1) := by decide +kernel
theorem dX9_steps_1 : decode cX9_steps 1 = .ok (.getfield 19, 3) := by decide +kernel
theorem dX9_steps_4 : decode cX9_steps 4 = .ok (.iload_n 1, 1) := by decide +kernel
theorem dX9_steps_5 : decode cX9_steps 5 = .ok (.i2l, 1) := by decide +kernel
theorem dX9_steps_6 : decode cX9_steps 6 = .ok (.invokevirtual 128, 3) := by decide +kernel
theorem dX9_steps_9 : decode cX9_steps 9 = .ok (.ifCond .eq 15, 3) := by decide +kernel
theorem dX9_steps_24 : decode cX9_steps 24 = .ok (.bipush (-2), 2) := by decide +kernel
theorem dX9_steps_26 : decode cX9_steps 26 = .ok (.ireturn, 1) := by decide +kernel
theorem dX9_straight_0 : decode cX9_straight 0 = .ok (.aload_n 0, 1) := by decide +kernel
theorem dX9_straight_1 : decode cX9_straight 1 = .ok (.getfield 19, 3) := by decide +kernel
theorem dX9_straight_4 : decode cX9_straight 4 = .ok (.iload_n 1, 1) := by decide +kernel
theorem dX9_straight_5 : decode cX9_straight 5 = .ok (.i2l, 1) := by decide +kernel
theorem dX9_straight_6 : decode cX9_straight 6 = .ok (.invokevirtual 128, 3) := by decide +kernel
theorem dX9_straight_9 : decode cX9_straight 9 = .ok (.ifCond .ne 6, 3) := by decide +kernel
theorem dX9_straight_12 : decode cX9_straight 12 = .ok (.bipush (-2), 2) := by decide +kernel
theorem dX9_straight_14 : decode cX9_straight 14 = .ok (.ireturn, 1) := by decide +kernel
theorem dX9_undo_0 : decode cX9_undo 0 = .ok (.aload_n 0, 1) := by decide +kernel
theorem dX9_undo_1 : decode cX9_undo 1 = .ok (.getfield 19, 3) := by decide +kernel
theorem dX9_undo_4 : decode cX9_undo 4 = .ok (.getfield 106, 3) := by decide +kernel
theorem dX9_undo_7 : decode cX9_undo 7 = .ok (.ifCond .ne 6, 3) := by decide +kernel
theorem dX9_undo_10 : decode cX9_undo 10 = .ok (.bipush (-2), 2) := by decide +kernel
theorem dX9_undo_12 : decode cX9_undo 12 = .ok (.ireturn, 1) := by decide +kernel
theorem dX9_visits_0 : decode cX9_visits 0 = .ok (.aload_n 0, 1) := by decide +kernel
theorem dX9_visits_1 : decode cX9_visits 1 = .ok (.getfield 19, 3) := by decide +kernel
theorem dX9_visits_4 : decode cX9_visits 4 = .ok (.iload_n 2, 1) := by decide +kernel
theorem dX9_visits_5 : decode cX9_visits 5 = .ok (.i2l, 1) := by decide +kernel
theorem dX9_visits_6 : decode cX9_visits 6 = .ok (.invokevirtual 112, 3) := by decide +kernel
theorem dX9_visits_9 : decode cX9_visits 9 = .ok (.istore_n 3, 1) := by decide +kernel
theorem dX9_visits_10 : decode cX9_visits 10 = .ok (.aload_n 0, 1) := by decide +kernel
theorem dX9_visits_11 : decode cX9_visits 11 = .ok (.getfield 19, 3) := by decide +kernel
theorem dX9_visits_14 : decode cX9_visits 14 = .ok (.iload_n 1, 1) := by decide +kernel
theorem dX9_visits_15 : decode cX9_visits 15 = .ok (.i2l, 1) := by decide +kernel
theorem dX9_visits_16 : decode cX9_visits 16 = .ok (.invokevirtual 128, 3) := by decide +kernel
theorem dX9_visits_19 : decode cX9_visits 19 = .ok (.ifCond .eq 8, 3) := by decide +kernel
theorem dX9_visits_27 : decode cX9_visits 27 = .ok (.bipush (-2), 2) := by decide +kernel
theorem dX9_visits_29 : decode cX9_visits 29 = .ok (.ireturn, 1) := by decide +kernel
theorem dX9_walkAnew_0 : decode cX9_walkAnew 0 = .ok (.aload_n 0, 1) := by decide +kernel
theorem dX9_walkAnew_1 : decode cX9_walkAnew 1 = .ok (.getfield 30, 3) := by decide +kernel
theorem dX9_walkAnew_4 : decode cX9_walkAnew 4 = .ok (.aload_n 0, 1) := by decide +kernel
theorem dX9_walkAnew_5 : decode cX9_walkAnew 5 = .ok (.getfield 19, 3) := by decide +kernel
theorem dX9_walkAnew_8 : decode cX9_walkAnew 8 = .ok (.invokevirtual 271, 3) := by decide +kernel
theorem dX9_walkAnew_11 : decode cX9_walkAnew 11 = .ok (.aload_n 0, 1) := by decide +kernel
theorem dX9_walkAnew_12 : decode cX9_walkAnew 12 = .ok (.getfield 37, 3) := by decide +kernel
theorem dX9_walkAnew_15 : decode cX9_walkAnew 15 = .ok (.aload_n 0, 1) := by decide +kernel
theorem dX9_walkAnew_16 : decode cX9_walkAnew 16 = .ok (.getfield 19, 3) := by decide +kernel
theorem dX9_walkAnew_19 : decode cX9_walkAnew 19 = .ok (.aload_n 0, 1) := by decide +kernel
theorem dX9_walkAnew_20 : decode cX9_walkAnew 20 = .ok (.getfield 30, 3) := by decide +kernel
theorem dX9_walkAnew_23 : decode cX9_walkAnew 23 = .ok (.invokevirtual 277, 3) := by decide +kernel
theorem dX9_walkAnew_26 : decode cX9_walkAnew 26 = .ok (.aload_n 0, 1) := by decide +kernel
theorem dX9_walkAnew_27 : decode cX9_walkAnew 27 = .ok (.getfield 47, 3) := by decide +kernel
theorem dX9_walkAnew_30 : decode cX9_walkAnew 30 = .ok (.iconst 0, 1) := by decide +kernel
theorem dX9_walkAnew_31 : decode cX9_walkAnew 31 = .ok (.putfield 415, 3) := by decide +kernel
theorem dX9_walkAnew_34 : decode cX9_walkAnew 34 = .ok (.return_, 1) := by decide +kernel
theorem dX9_walked_0 : decode cX9_walked 0 = .ok (.aload_n 0, 1) := by decide +kernel
theorem dX9_walked_1 : decode cX9_walked 1 = .ok (.getfield 19, 3) := by decide +kernel
theorem dX9_walked_4 : decode cX9_walked 4 = .ok (.iload_n 1, 1) := by decide +kernel
theorem dX9_walked_5 : decode cX9_walked 5 = .ok (.i2l, 1) := by decide +kernel
theorem dX9_walked_6 : decode cX9_walked 6 = .ok (.invokevirtual 112, 3) := by decide +kernel
theorem dX9_walked_9 : decode cX9_walked 9 = .ok (.istore_n 2, 1) := by decide +kernel
theorem dX9_walked_10 : decode cX9_walked 10 = .ok (.iload_n 2, 1) := by decide +kernel
theorem dX9_walked_11 : decode cX9_walked 11 = .ok (.iconst (-1), 1) := by decide +kernel
theorem dX9_walked_12 : decode cX9_walked 12 = .ok (.if_icmp .ne 8, 3) := by decide +kernel
theorem dX9_walked_15 : decode cX9_walked 15 = .ok (.bipush (-2), 2) := by decide +kernel
theorem dX9_walked_17 : decode cX9_walked 17 = .ok (.goto 8, 3) := by decide +kernel
theorem dX9_walked_25 : decode cX9_walked 25 = .ok (.ireturn, 1) := by decide +kernel
theorem dX9_way_0 : decode cX9_way 0 = .ok (.aload_n 0, 1) := by decide +kernel
theorem dX9_way_1 : decode cX9_way 1 = .ok (.getfield 19, 3) := by decide +kernel
theorem dX9_way_4 : decode cX9_way 4 = .ok (.iload_n 1, 1) := by decide +kernel
theorem dX9_way_5 : decode cX9_way 5 = .ok (.i2l, 1) := by decide +kernel
theorem dX9_way_6 : decode cX9_way 6 = .ok (.invokevirtual 112, 3) := by decide +kernel
theorem dX9_way_9 : decode cX9_way 9 = .ok (.istore 4, 2) := by decide +kernel
theorem dX9_way_11 : decode cX9_way 11 = .ok (.aload_n 0, 1) := by decide +kernel
theorem dX9_way_12 : decode cX9_way 12 = .ok (.getfield 19, 3) := by decide +kernel
theorem dX9_way_15 : decode cX9_way 15 = .ok (.iload_n 2, 1) := by decide +kernel
theorem dX9_way_16 : decode cX9_way 16 = .ok (.i2l, 1) := by decide +kernel
theorem dX9_way_17 : decode cX9_way 17 = .ok (.invokevirtual 112, 3) := by decide +kernel
theorem dX9_way_20 : decode cX9_way 20 = .ok (.istore 5, 2) := by decide +kernel
theorem dX9_way_22 : decode cX9_way 22 = .ok (.iload 4, 2) := by decide +kernel
theorem dX9_way_24 : decode cX9_way 24 = .ok (.iconst (-1), 1) := by decide +kernel
theorem dX9_way_25 : decode cX9_way 25 = .ok (.if_icmp .eq 20, 3) := by decide +kernel
theorem dX9_way_45 : decode cX9_way 45 = .ok (.bipush (-2), 2) := by decide +kernel
theorem dX9_way_47 : decode cX9_way 47 = .ok (.ireturn, 1) := by decide +kernel
theorem dX9_widow_0 : decode cX9_widow 0 = .ok (.aload_n 0, 1) := by decide +kernel
theorem dX9_widow_1 : decode cX9_widow 1 = .ok (.getfield 19, 3) := by decide +kernel
theorem dX9_widow_4 : decode cX9_widow 4 = .ok (.iload_n 1, 1) := by decide +kernel
theorem dX9_widow_5 : decode cX9_widow 5 = .ok (.i2l, 1) := by decide +kernel
theorem dX9_widow_6 : decode cX9_widow 6 = .ok (.invokevirtual 128, 3) := by decide +kernel
theorem dX9_widow_9 : decode cX9_widow 9 = .ok (.ifCond .ne 6, 3) := by decide +kernel
theorem dX9_widow_12 : decode cX9_widow 12 = .ok (.bipush (-2), 2) := by decide +kernel
theorem dX9_widow_14 : decode cX9_widow 14 = .ok (.ireturn, 1) := by decide +kernel
theorem dX9_worth_0 : decode cX9_worth 0 = .ok (.aload_n 0, 1) := by decide +kernel
theorem dX9_worth_1 : decode cX9_worth 1 = .ok (.getfield 19, 3) := by decide +kernel
theorem dX9_worth_4 : decode cX9_worth 4 = .ok (.getfield 106, 3) := by decide +kernel
theorem dX9_worth_7 : decode cX9_worth 7 = .ok (.ifCond .eq 20, 3) := by decide +kernel
theorem dX9_worth_27 : decode cX9_worth 27 = .ok (.bipush (-2), 2) := by decide +kernel
theorem dX9_worth_29 : decode cX9_worth 29 = .ok (.ireturn, 1) := by decide +kernel
theorem dX9_write_0 : decode cX9_write 0 = .ok (.iload_n 1, 1) := by decide +kernel
theorem dX9_write_1 : decode cX9_write 1 = .ok (.invokestatic 388, 3) := by decide +kernel
theorem dX9_write_4 : decode cX9_write 4 = .ok (.ifCond .ne 6, 3) := by decide +kernel
theorem dX9_write_7 : decode cX9_write 7 = .ok (.bipush (-2), 2) := by decide +kernel
theorem dX9_write_9 : decode cX9_write 9 = .ok (.ireturn, 1) := by decide +kernel
theorem dX9_write_10 : decode cX9_write 10 = .ok (.aload_n 0, 1) := by decide +kernel
theorem dX9_write_11 : decode cX9_write 11 = .ok (.getfield 61, 3) := by decide +kernel
theorem dX9_write_14 : decode cX9_write 14 = .ok (.iload_n 1, 1) := by decide +kernel
theorem dX9_write_15 : decode cX9_write 15 = .ok (.invokevirtual 395, 3) := by decide +kernel
theorem dX9_write_18 : decode cX9_write 18 = .ok (.ifCond .eq 6, 3) := by decide +kernel
theorem dX9_write_21 : decode cX9_write 21 = .ok (.bipush (-6), 2) := by decide +kernel
theorem dX9_write_23 : decode cX9_write 23 = .ok (.ireturn, 1) := by decide +kernel
set_option maxHeartbeats 4000000 in
set_option maxRecDepth 100000 in
theorem f_X9_isSlot (l : Launch) (G : va_G) (cI cJ cZ cB cQ : ClassId) (sz : Nat) (p0 : Int32) (a0 : Int) (h0 : p0.toInt = a0) : CI l yX9_isSlot (wl_ yX9_isSlot cX9_isSlot 1 (some .boolean)) ({ frames := 0, cells := 0, slots := 0, locals := 0 } : Room) G (TY cI cJ cZ cB cQ) [.int p0] [] sz (fun (r : Int32) (u : Unit) => (r = 1 ∧ 0 ≤ a0 ∧ a0 ≤ 3) ∨ (r = 0 ∧ (a0 < 0 ∨ 3 < a0))) (fun _ : Unit => []) 0 0 := by
  refine CI.goz (cc := cX9_isSlot) (maxL := 1) (ret := (some .boolean)) (by decide) rfl (Nat.le_of_ble_eq_true rfl) ?_
  intro p e s m below meth c A ls Q hBd hret
  obtain ⟨hx, hb, hr, hml, hts, hown, hlk, hnm, hP, hK, hD, hA, hZ, hl⟩ := hBd
  have hown : s.vm.findClass RX9 = some m.cls := hown
  have hl : lv_has ls 1 [(0, .int p0)] := hl
  have hS : va_S A s.heap s.heap [] := va_S.rf
  refine lv_iload_n hx hb dX9_isSlot_0 rfl (lv_at hl 0 rfl) ?_
  refine lv_if_lt (tgt := 13) hx hb dX9_isSlot_1 (by decide) (fun c1 => ?_) (fun c1 => ?_)
  · have c1 := i_lt h0 ki_0 c1
    refine lv_iconst (v := 0) hx hb dX9_isSlot_13 (by decide) ?_
    exact hret _ _ _ _ 0 () hP hD hS dX9_isSlot_14 rfl (Or.inr ⟨rfl, by omega⟩)
  · have c1 := i_nlt h0 ki_0 c1
    refine lv_iload_n hx hb dX9_isSlot_4 rfl (lv_at hl 0 rfl) ?_
    refine lv_iconst (v := 4) hx hb dX9_isSlot_5 (by decide) ?_
    refine lv_icmp_ge (tgt := 13) hx hb dX9_isSlot_6 (by decide) (fun c2 => ?_) (fun c2 => ?_)
    · have c2 := i_le ki_4 h0 c2
      refine lv_iconst (v := 0) hx hb dX9_isSlot_13 (by decide) ?_
      exact hret _ _ _ _ 0 () hP hD hS dX9_isSlot_14 rfl (Or.inr ⟨rfl, by omega⟩)
    · have c2 := i_nle ki_4 h0 c2
      refine lv_iconst (v := 1) hx hb dX9_isSlot_9 (by decide) ?_
      refine lv_goto (tgt := 14) hx hb dX9_isSlot_10 (by decide) ?_
      exact hret _ _ _ _ 1 () hP hD hS dX9_isSlot_14 rfl (Or.inl ⟨rfl, by omega, by omega⟩)
set_option maxHeartbeats 4000000 in
set_option maxRecDepth 100000 in
theorem f_X9_refusalOfRow (l : Launch) (G : va_G) (cI cJ cZ cB cQ : ClassId) (sz : Nat) (h0 : Nat) (b : Nat → Nat) (bc : Nat → Nat) (p0 : Int32) : CI l yX9_refusalOfRow (wl_ yX9_refusalOfRow cX9_refusalOfRow 2 (some .int)) ({ frames := 0, cells := 0, slots := 0, locals := 0 } : Room) G (TY cI cJ cZ cB cQ) [.ref h0, .int p0] [(h0, oX9 b), (b 1, oX0 bc 0 0 0 0 0 0 0 0 0 0)] sz (fun (r : Int32) (u : Unit) => r = (-2)) (fun _ : Unit => [(h0, oX9 b), (b 1, oX0 bc 0 0 0 0 0 0 0 0 0 0)]) 0 0 := by
  refine CI.go (cc := cX9_refusalOfRow) (maxL := 2) (ret := (some .int)) (by decide) rfl (Nat.le_of_ble_eq_true rfl) ?_
  intro p e s m below meth c A ls Q hBd hret
  obtain ⟨hx, hb, hr, hml, hts, hown, hlk, hnm, hP, hK, hD, hA, hZ, hl⟩ := hBd
  have hown : s.vm.findClass RX9 = some m.cls := hown
  have hl : lv_has ls 2 [(0, .ref h0), (1, .int p0)] := hl
  have hS : va_S A s.heap s.heap [] := va_S.rf
  refine lv_aload_n hx hb dX9_refusalOfRow_0 rfl (lv_at hl 0 rfl) ?_
  refine va_get (D := G) (ci := 9) (v := .ref (b 1)) (C := RX9) (T := TX9) (N := 11) hx hb hts iG_X9 hown hK hP 0 rfl rfl 1 (by decide) (hts _ w_352) (fun _ h9 => h9) rfl dX9_refusalOfRow_1 ?_
  refine va_getN (D := G) (ci := 0) (v := .int 0) (C := RX0) (T := TX0) (N := 19) hx hb hts iG_X0 hown hK hP 1 rfl rfl 0 (by decide) (nz_use hZ nw_57 rfl) (fun _ h9 => h9) rfl dX9_refusalOfRow_4 ?_
  refine lv_if_eq (tgt := 17) hx hb dX9_refusalOfRow_7 (by decide) (fun c1 => ?_) (fun c1 => absurd (by decide) c1)
  refine lv_bipush (v := (-2)) hx hb dX9_refusalOfRow_17 (by decide) ?_
  exact hret _ _ _ _ (-2) () hP hD hS dX9_refusalOfRow_19 rfl
set_option maxHeartbeats 4000000 in
set_option maxRecDepth 100000 in
theorem f_X9_refusalOfSeen (l : Launch) (G : va_G) (cI cJ cZ cB cQ : ClassId) (sz : Nat) (h0 : Nat) (b : Nat → Nat) (bc : Nat → Nat) (p0 : Int32) (p1 : Int32) : CI l yX9_refusalOfSeen (wl_ yX9_refusalOfSeen cX9_refusalOfSeen 3 (some .int)) ({ frames := 1, cells := 0, slots := 0, locals := 22 } : Room) G (TY cI cJ cZ cB cQ) [.ref h0, .int p0, .int p1] [(h0, oX9 b), (b 1, oX0 bc 0 0 0 0 0 0 0 0 0 0)] sz (fun (r : Int32) (u : Unit) => r = (-2)) (fun _ : Unit => [(h0, oX9 b), (b 1, oX0 bc 0 0 0 0 0 0 0 0 0 0)]) 0 0 := by
  refine CI.go (cc := cX9_refusalOfSeen) (maxL := 3) (ret := (some .int)) (by decide) rfl (Nat.le_of_ble_eq_true rfl) ?_
  intro p e s m below meth c A ls Q hBd hret
  obtain ⟨hx, hb, hr, hml, hts, hown, hlk, hnm, hP, hK, hD, hA, hZ, hl⟩ := hBd
  have hown : s.vm.findClass RX9 = some m.cls := hown
  have hl : lv_has ls 3 [(0, .ref h0), (1, .int p0), (2, .int p1)] := hl
  have hS : va_S A s.heap s.heap [] := va_S.rf
  refine lv_aload_n hx hb dX9_refusalOfSeen_0 rfl (lv_at hl 0 rfl) ?_
  refine va_get (D := G) (ci := 9) (v := .ref (b 1)) (C := RX9) (T := TX9) (N := 11) hx hb hts iG_X9 hown hK hP 0 rfl rfl 1 (by decide) (hts _ w_352) (fun _ h9 => h9) rfl dX9_refusalOfSeen_1 ?_
  refine lv_iload_n hx hb dX9_refusalOfSeen_4 rfl (lv_at hl 2 rfl) ?_
  obtain ⟨v1, ev1⟩ : ∃ y : Int64, p1.toInt64 = y := ⟨_, rfl⟩
  have tv1 : v1.toInt = p1.toInt := ti_wide rfl ev1
  refine lv_i2l (v := v1) hx hb dX9_refusalOfSeen_5 ev1 ?_
  refine k_i (wc := [(b 1, oX0 bc 0 0 0 0 0 0 0 0 0 0)]) (wr := [(h0, oX9 b)]) hP hD hS hA [1] [0] rfl rfl rfl (by decide) (va_runVN (As := [.long v1]) (rest := []) ⟨hx, hb, hml, hown, hts⟩ (f_X0_hasWidow l G cI cJ cZ cB cQ _ (b 1) bc v1) ⟨va_cnB (host := "WidowRoads") 1 hts (gW w_671) rfl rfl rfl (nz_nw hZ nw_668 rfl) (hts _ w_4) hd_X0_hasWidow ⟨Nat.le_of_ble_eq_true rfl, Nat.le_of_ble_eq_true rfl⟩, (hts _ w_670), (hts _ wp_35)⟩ (mV hK hZ hP hD [1] rfl rfl [.long v1] 1 0 rfl rfl) rfl rfl hl.1 rfl (lv_room (Nat.le_of_ble_eq_true rfl)) dX9_refusalOfSeen_6 ⟨Nat.le_of_ble_eq_true rfl, Nat.le_of_ble_eq_true rfl⟩) (fun r2 u3 H locs hw4 hP hD hS => ?_)
  try dsimp only at hw4
  have hP : va_P G vwCl [(h0, oX9 b), (b 1, oX0 bc 0 0 0 0 0 0 0 0 0 0)] H := hP
  have hD : va_D A [(h0, oX9 b), (b 1, oX0 bc 0 0 0 0 0 0 0 0 0 0)] := hD
  obtain rfl : r2 = 0 := hw4
  refine lv_if_eq (tgt := 20) hx hb dX9_refusalOfSeen_9 (by decide) (fun c5 => ?_) (fun c5 => absurd (by decide) c5)
  refine lv_bipush (v := (-2)) hx hb dX9_refusalOfSeen_20 (by decide) ?_
  exact hret _ _ _ _ (-2) () hP hD hS dX9_refusalOfSeen_22 rfl
set_option maxHeartbeats 4000000 in
set_option maxRecDepth 100000 in
theorem f_X9_areTwo (l : Launch) (G : va_G) (cI cJ cZ cB cQ : ClassId) (sz : Nat) (h0 : Nat) (b : Nat → Nat) (bc : Nat → Nat) (p0 : Int32) (p1 : Int32) : CI l yX9_areTwo (wl_ yX9_areTwo cX9_areTwo 3 (some .boolean)) ({ frames := 1, cells := 0, slots := 0, locals := 22 } : Room) G (TY cI cJ cZ cB cQ) [.ref h0, .int p0, .int p1] [(h0, oX9 b), (b 1, oX0 bc 0 0 0 0 0 0 0 0 0 0)] sz (fun (r : Int32) (u : Unit) => r = 0) (fun _ : Unit => [(h0, oX9 b), (b 1, oX0 bc 0 0 0 0 0 0 0 0 0 0)]) 0 0 := by
  refine CI.goz (cc := cX9_areTwo) (maxL := 3) (ret := (some .boolean)) (by decide) rfl (Nat.le_of_ble_eq_true rfl) ?_
  intro p e s m below meth c A ls Q hBd hret
  obtain ⟨hx, hb, hr, hml, hts, hown, hlk, hnm, hP, hK, hD, hA, hZ, hl⟩ := hBd
  have hown : s.vm.findClass RX9 = some m.cls := hown
  have hl : lv_has ls 3 [(0, .ref h0), (1, .int p0), (2, .int p1)] := hl
  have hS : va_S A s.heap s.heap [] := va_S.rf
  refine lv_aload_n hx hb dX9_areTwo_0 rfl (lv_at hl 0 rfl) ?_
  refine va_get (D := G) (ci := 9) (v := .ref (b 1)) (C := RX9) (T := TX9) (N := 11) hx hb hts iG_X9 hown hK hP 0 rfl rfl 1 (by decide) (hts _ w_352) (fun _ h9 => h9) rfl dX9_areTwo_1 ?_
  refine lv_iload_n hx hb dX9_areTwo_4 rfl (lv_at hl 1 rfl) ?_
  obtain ⟨v1, ev1⟩ : ∃ y : Int64, p0.toInt64 = y := ⟨_, rfl⟩
  have tv1 : v1.toInt = p0.toInt := ti_wide rfl ev1
  refine lv_i2l (v := v1) hx hb dX9_areTwo_5 ev1 ?_
  refine k_i (wc := [(b 1, oX0 bc 0 0 0 0 0 0 0 0 0 0)]) (wr := [(h0, oX9 b)]) hP hD hS hA [1] [0] rfl rfl rfl (by decide) (va_runVN (As := [.long v1]) (rest := []) ⟨hx, hb, hml, hown, hts⟩ (f_X0_hasWidow l G cI cJ cZ cB cQ _ (b 1) bc v1) ⟨va_cnB (host := "WidowRoads") 1 hts (gW w_671) rfl rfl rfl (nz_nw hZ nw_668 rfl) (hts _ w_4) hd_X0_hasWidow ⟨Nat.le_of_ble_eq_true rfl, Nat.le_of_ble_eq_true rfl⟩, (hts _ w_670), (hts _ wp_35)⟩ (mV hK hZ hP hD [1] rfl rfl [.long v1] 1 0 rfl rfl) rfl rfl hl.1 rfl (lv_room (Nat.le_of_ble_eq_true rfl)) dX9_areTwo_6 ⟨Nat.le_of_ble_eq_true rfl, Nat.le_of_ble_eq_true rfl⟩) (fun r2 u3 H locs hw4 hP hD hS => ?_)
  try dsimp only at hw4
  have hP : va_P G vwCl [(h0, oX9 b), (b 1, oX0 bc 0 0 0 0 0 0 0 0 0 0)] H := hP
  have hD : va_D A [(h0, oX9 b), (b 1, oX0 bc 0 0 0 0 0 0 0 0 0 0)] := hD
  obtain rfl : r2 = 0 := hw4
  refine lv_if_eq (tgt := 33) hx hb dX9_areTwo_9 (by decide) (fun c5 => ?_) (fun c5 => absurd (by decide) c5)
  refine lv_iconst (v := 0) hx hb dX9_areTwo_33 (by decide) ?_
  exact hret _ _ _ _ 0 () hP hD hS dX9_areTwo_34 rfl rfl
set_option maxHeartbeats 4000000 in
set_option maxRecDepth 100000 in
theorem f_X9_creek (l : Launch) (G : va_G) (cI cJ cZ cB cQ : ClassId) (sz : Nat) (h0 : Nat) (b : Nat → Nat) (bc : Nat → Nat) (p0 : Int32) : CI l yX9_creek (wl_ yX9_creek cX9_creek 3 (some .int)) ({ frames := 1, cells := 0, slots := 0, locals := 22 } : Room) G (TY cI cJ cZ cB cQ) [.ref h0, .int p0] [(h0, oX9 b), (b 1, oX0 bc 0 0 0 0 0 0 0 0 0 0)] sz (fun (r : Int32) (u : Unit) => r = (-2)) (fun _ : Unit => [(h0, oX9 b), (b 1, oX0 bc 0 0 0 0 0 0 0 0 0 0)]) 0 0 := by
  refine CI.go (cc := cX9_creek) (maxL := 3) (ret := (some .int)) (by decide) rfl (Nat.le_of_ble_eq_true rfl) ?_
  intro p e s m below meth c A ls Q hBd hret
  obtain ⟨hx, hb, hr, hml, hts, hown, hlk, hnm, hP, hK, hD, hA, hZ, hl⟩ := hBd
  have hown : s.vm.findClass RX9 = some m.cls := hown
  have hl : lv_has ls 3 [(0, .ref h0), (1, .int p0)] := hl
  have hS : va_S A s.heap s.heap [] := va_S.rf
  refine lv_aload_n hx hb dX9_creek_0 rfl (lv_at hl 0 rfl) ?_
  refine va_get (D := G) (ci := 9) (v := .ref (b 1)) (C := RX9) (T := TX9) (N := 11) hx hb hts iG_X9 hown hK hP 0 rfl rfl 1 (by decide) (hts _ w_352) (fun _ h9 => h9) rfl dX9_creek_1 ?_
  refine lv_iload_n hx hb dX9_creek_4 rfl (lv_at hl 1 rfl) ?_
  obtain ⟨v1, ev1⟩ : ∃ y : Int64, p0.toInt64 = y := ⟨_, rfl⟩
  have tv1 : v1.toInt = p0.toInt := ti_wide rfl ev1
  refine lv_i2l (v := v1) hx hb dX9_creek_5 ev1 ?_
  refine k_i (wc := [(b 1, oX0 bc 0 0 0 0 0 0 0 0 0 0)]) (wr := [(h0, oX9 b)]) hP hD hS hA [1] [0] rfl rfl rfl (by decide) (va_runVN (As := [.long v1]) (rest := []) ⟨hx, hb, hml, hown, hts⟩ (f_X0_spotOf l G cI cJ cZ cB cQ _ (b 1) bc v1) ⟨va_cnB (host := "WidowRoads") 1 hts (gW w_656) rfl rfl rfl (nz_nw hZ nw_653 rfl) (hts _ w_4) hd_X0_spotOf ⟨Nat.le_of_ble_eq_true rfl, Nat.le_of_ble_eq_true rfl⟩, (hts _ w_655), (hts _ wp_34)⟩ (mV hK hZ hP hD [1] rfl rfl [.long v1] 1 0 rfl rfl) rfl rfl hl.1 rfl (lv_room (Nat.le_of_ble_eq_true rfl)) dX9_creek_6 ⟨Nat.le_of_ble_eq_true rfl, Nat.le_of_ble_eq_true rfl⟩) (fun r2 u3 H locs hw4 hP hD hS => ?_)
  try dsimp only at hw4
  have hP : va_P G vwCl [(h0, oX9 b), (b 1, oX0 bc 0 0 0 0 0 0 0 0 0 0)] H := hP
  have hD : va_D A [(h0, oX9 b), (b 1, oX0 bc 0 0 0 0 0 0 0 0 0 0)] := hD
  obtain rfl : r2 = (-1) := hw4
  refine lv_istore_n (lv' := [(2, .int (-1)), (0, .ref h0), (1, .int p0)]) hx hb dX9_creek_9 rfl hl (by decide) rfl (fun ls hl => ?_)
  refine lv_iload_n hx hb dX9_creek_10 rfl (lv_at hl 0 rfl) ?_
  refine lv_iconst (v := (-1)) hx hb dX9_creek_11 (by decide) ?_
  refine lv_icmp_ne (tgt := 18) hx hb dX9_creek_12 (by decide) (fun c5 => absurd (by decide) c5) (fun c5 => ?_)
  refine lv_bipush (v := (-2)) hx hb dX9_creek_15 (by decide) ?_
  exact hret _ _ _ _ (-2) () hP hD hS dX9_creek_17 rfl
set_option maxHeartbeats 4000000 in
set_option maxRecDepth 100000 in
theorem f_X9_widow (l : Launch) (G : va_G) (cI cJ cZ cB cQ : ClassId) (sz : Nat) (h0 : Nat) (b : Nat → Nat) (bc : Nat → Nat) (p0 : Int32) (p1 : Int32) : CI l yX9_widow (wl_ yX9_widow cX9_widow 3 (some .int)) ({ frames := 1, cells := 0, slots := 0, locals := 22 } : Room) G (TY cI cJ cZ cB cQ) [.ref h0, .int p0, .int p1] [(h0, oX9 b), (b 1, oX0 bc 0 0 0 0 0 0 0 0 0 0)] sz (fun (r : Int32) (u : Unit) => r = (-2)) (fun _ : Unit => [(h0, oX9 b), (b 1, oX0 bc 0 0 0 0 0 0 0 0 0 0)]) 0 0 := by
  refine CI.go (cc := cX9_widow) (maxL := 3) (ret := (some .int)) (by decide) rfl (Nat.le_of_ble_eq_true rfl) ?_
  intro p e s m below meth c A ls Q hBd hret
  obtain ⟨hx, hb, hr, hml, hts, hown, hlk, hnm, hP, hK, hD, hA, hZ, hl⟩ := hBd
  have hown : s.vm.findClass RX9 = some m.cls := hown
  have hl : lv_has ls 3 [(0, .ref h0), (1, .int p0), (2, .int p1)] := hl
  have hS : va_S A s.heap s.heap [] := va_S.rf
  refine lv_aload_n hx hb dX9_widow_0 rfl (lv_at hl 0 rfl) ?_
  refine va_get (D := G) (ci := 9) (v := .ref (b 1)) (C := RX9) (T := TX9) (N := 11) hx hb hts iG_X9 hown hK hP 0 rfl rfl 1 (by decide) (hts _ w_352) (fun _ h9 => h9) rfl dX9_widow_1 ?_
  refine lv_iload_n hx hb dX9_widow_4 rfl (lv_at hl 1 rfl) ?_
  obtain ⟨v1, ev1⟩ : ∃ y : Int64, p0.toInt64 = y := ⟨_, rfl⟩
  have tv1 : v1.toInt = p0.toInt := ti_wide rfl ev1
  refine lv_i2l (v := v1) hx hb dX9_widow_5 ev1 ?_
  refine k_i (wc := [(b 1, oX0 bc 0 0 0 0 0 0 0 0 0 0)]) (wr := [(h0, oX9 b)]) hP hD hS hA [1] [0] rfl rfl rfl (by decide) (va_runVN (As := [.long v1]) (rest := []) ⟨hx, hb, hml, hown, hts⟩ (f_X0_hasWidow l G cI cJ cZ cB cQ _ (b 1) bc v1) ⟨va_cnB (host := "WidowRoads") 1 hts (gW w_671) rfl rfl rfl (nz_nw hZ nw_668 rfl) (hts _ w_4) hd_X0_hasWidow ⟨Nat.le_of_ble_eq_true rfl, Nat.le_of_ble_eq_true rfl⟩, (hts _ w_670), (hts _ wp_35)⟩ (mV hK hZ hP hD [1] rfl rfl [.long v1] 1 0 rfl rfl) rfl rfl hl.1 rfl (lv_room (Nat.le_of_ble_eq_true rfl)) dX9_widow_6 ⟨Nat.le_of_ble_eq_true rfl, Nat.le_of_ble_eq_true rfl⟩) (fun r2 u3 H locs hw4 hP hD hS => ?_)
  try dsimp only at hw4
  have hP : va_P G vwCl [(h0, oX9 b), (b 1, oX0 bc 0 0 0 0 0 0 0 0 0 0)] H := hP
  have hD : va_D A [(h0, oX9 b), (b 1, oX0 bc 0 0 0 0 0 0 0 0 0 0)] := hD
  obtain rfl : r2 = 0 := hw4
  refine lv_if_ne (tgt := 15) hx hb dX9_widow_9 (by decide) (fun c5 => absurd (by decide) c5) (fun c5 => ?_)
  refine lv_bipush (v := (-2)) hx hb dX9_widow_12 (by decide) ?_
  exact hret _ _ _ _ (-2) () hP hD hS dX9_widow_14 rfl
set_option maxHeartbeats 4000000 in
set_option maxRecDepth 100000 in
theorem f_X9_grief (l : Launch) (G : va_G) (cI cJ cZ cB cQ : ClassId) (sz : Nat) (h0 : Nat) (b : Nat → Nat) (bc : Nat → Nat) (p0 : Int32) (p1 : Int32) : CI l yX9_grief (wl_ yX9_grief cX9_grief 3 (some .int)) ({ frames := 1, cells := 0, slots := 0, locals := 22 } : Room) G (TY cI cJ cZ cB cQ) [.ref h0, .int p0, .int p1] [(h0, oX9 b), (b 1, oX0 bc 0 0 0 0 0 0 0 0 0 0)] sz (fun (r : Int32) (u : Unit) => r = (-2)) (fun _ : Unit => [(h0, oX9 b), (b 1, oX0 bc 0 0 0 0 0 0 0 0 0 0)]) 0 0 := by
  refine CI.go (cc := cX9_grief) (maxL := 3) (ret := (some .int)) (by decide) rfl (Nat.le_of_ble_eq_true rfl) ?_
  intro p e s m below meth c A ls Q hBd hret
  obtain ⟨hx, hb, hr, hml, hts, hown, hlk, hnm, hP, hK, hD, hA, hZ, hl⟩ := hBd
  have hown : s.vm.findClass RX9 = some m.cls := hown
  have hl : lv_has ls 3 [(0, .ref h0), (1, .int p0), (2, .int p1)] := hl
  have hS : va_S A s.heap s.heap [] := va_S.rf
  refine lv_aload_n hx hb dX9_grief_0 rfl (lv_at hl 0 rfl) ?_
  refine va_get (D := G) (ci := 9) (v := .ref (b 1)) (C := RX9) (T := TX9) (N := 11) hx hb hts iG_X9 hown hK hP 0 rfl rfl 1 (by decide) (hts _ w_352) (fun _ h9 => h9) rfl dX9_grief_1 ?_
  refine lv_iload_n hx hb dX9_grief_4 rfl (lv_at hl 1 rfl) ?_
  obtain ⟨v1, ev1⟩ : ∃ y : Int64, p0.toInt64 = y := ⟨_, rfl⟩
  have tv1 : v1.toInt = p0.toInt := ti_wide rfl ev1
  refine lv_i2l (v := v1) hx hb dX9_grief_5 ev1 ?_
  refine k_i (wc := [(b 1, oX0 bc 0 0 0 0 0 0 0 0 0 0)]) (wr := [(h0, oX9 b)]) hP hD hS hA [1] [0] rfl rfl rfl (by decide) (va_runVN (As := [.long v1]) (rest := []) ⟨hx, hb, hml, hown, hts⟩ (f_X0_hasWidow l G cI cJ cZ cB cQ _ (b 1) bc v1) ⟨va_cnB (host := "WidowRoads") 1 hts (gW w_671) rfl rfl rfl (nz_nw hZ nw_668 rfl) (hts _ w_4) hd_X0_hasWidow ⟨Nat.le_of_ble_eq_true rfl, Nat.le_of_ble_eq_true rfl⟩, (hts _ w_670), (hts _ wp_35)⟩ (mV hK hZ hP hD [1] rfl rfl [.long v1] 1 0 rfl rfl) rfl rfl hl.1 rfl (lv_room (Nat.le_of_ble_eq_true rfl)) dX9_grief_6 ⟨Nat.le_of_ble_eq_true rfl, Nat.le_of_ble_eq_true rfl⟩) (fun r2 u3 H locs hw4 hP hD hS => ?_)
  try dsimp only at hw4
  have hP : va_P G vwCl [(h0, oX9 b), (b 1, oX0 bc 0 0 0 0 0 0 0 0 0 0)] H := hP
  have hD : va_D A [(h0, oX9 b), (b 1, oX0 bc 0 0 0 0 0 0 0 0 0 0)] := hD
  obtain rfl : r2 = 0 := hw4
  refine lv_if_eq (tgt := 16) hx hb dX9_grief_9 (by decide) (fun c5 => ?_) (fun c5 => absurd (by decide) c5)
  refine lv_bipush (v := (-2)) hx hb dX9_grief_16 (by decide) ?_
  exact hret _ _ _ _ (-2) () hP hD hS dX9_grief_18 rfl
set_option maxHeartbeats 4000000 in
set_option maxRecDepth 100000 in
theorem f_X9_at (l : Launch) (G : va_G) (cI cJ cZ cB cQ : ClassId) (sz : Nat) (h0 : Nat) (b : Nat → Nat) (bc : Nat → Nat) (p0 : Int32) (p1 : Int32) : CI l yX9_at (wl_ yX9_at cX9_at 3 (some .int)) ({ frames := 1, cells := 0, slots := 0, locals := 22 } : Room) G (TY cI cJ cZ cB cQ) [.ref h0, .int p0, .int p1] [(h0, oX9 b), (b 1, oX0 bc 0 0 0 0 0 0 0 0 0 0)] sz (fun (r : Int32) (u : Unit) => r = (-2)) (fun _ : Unit => [(h0, oX9 b), (b 1, oX0 bc 0 0 0 0 0 0 0 0 0 0)]) 0 0 := by
  refine CI.go (cc := cX9_at) (maxL := 3) (ret := (some .int)) (by decide) rfl (Nat.le_of_ble_eq_true rfl) ?_
  intro p e s m below meth c A ls Q hBd hret
  obtain ⟨hx, hb, hr, hml, hts, hown, hlk, hnm, hP, hK, hD, hA, hZ, hl⟩ := hBd
  have hown : s.vm.findClass RX9 = some m.cls := hown
  have hl : lv_has ls 3 [(0, .ref h0), (1, .int p0), (2, .int p1)] := hl
  have hS : va_S A s.heap s.heap [] := va_S.rf
  refine lv_aload_n hx hb dX9_at_0 rfl (lv_at hl 0 rfl) ?_
  refine va_get (D := G) (ci := 9) (v := .ref (b 1)) (C := RX9) (T := TX9) (N := 11) hx hb hts iG_X9 hown hK hP 0 rfl rfl 1 (by decide) (hts _ w_352) (fun _ h9 => h9) rfl dX9_at_1 ?_
  refine lv_iload_n hx hb dX9_at_4 rfl (lv_at hl 1 rfl) ?_
  obtain ⟨v1, ev1⟩ : ∃ y : Int64, p0.toInt64 = y := ⟨_, rfl⟩
  have tv1 : v1.toInt = p0.toInt := ti_wide rfl ev1
  refine lv_i2l (v := v1) hx hb dX9_at_5 ev1 ?_
  refine k_i (wc := [(b 1, oX0 bc 0 0 0 0 0 0 0 0 0 0)]) (wr := [(h0, oX9 b)]) hP hD hS hA [1] [0] rfl rfl rfl (by decide) (va_runVN (As := [.long v1]) (rest := []) ⟨hx, hb, hml, hown, hts⟩ (f_X0_hasWidow l G cI cJ cZ cB cQ _ (b 1) bc v1) ⟨va_cnB (host := "WidowRoads") 1 hts (gW w_671) rfl rfl rfl (nz_nw hZ nw_668 rfl) (hts _ w_4) hd_X0_hasWidow ⟨Nat.le_of_ble_eq_true rfl, Nat.le_of_ble_eq_true rfl⟩, (hts _ w_670), (hts _ wp_35)⟩ (mV hK hZ hP hD [1] rfl rfl [.long v1] 1 0 rfl rfl) rfl rfl hl.1 rfl (lv_room (Nat.le_of_ble_eq_true rfl)) dX9_at_6 ⟨Nat.le_of_ble_eq_true rfl, Nat.le_of_ble_eq_true rfl⟩) (fun r2 u3 H locs hw4 hP hD hS => ?_)
  try dsimp only at hw4
  have hP : va_P G vwCl [(h0, oX9 b), (b 1, oX0 bc 0 0 0 0 0 0 0 0 0 0)] H := hP
  have hD : va_D A [(h0, oX9 b), (b 1, oX0 bc 0 0 0 0 0 0 0 0 0 0)] := hD
  obtain rfl : r2 = 0 := hw4
  refine lv_if_eq (tgt := 20) hx hb dX9_at_9 (by decide) (fun c5 => ?_) (fun c5 => absurd (by decide) c5)
  refine lv_bipush (v := (-2)) hx hb dX9_at_20 (by decide) ?_
  exact hret _ _ _ _ (-2) () hP hD hS dX9_at_22 rfl
set_option maxHeartbeats 4000000 in
set_option maxRecDepth 100000 in
theorem f_X9_steps (l : Launch) (G : va_G) (cI cJ cZ cB cQ : ClassId) (sz : Nat) (h0 : Nat) (b : Nat → Nat) (bc : Nat → Nat) (p0 : Int32) : CI l yX9_steps (wl_ yX9_steps cX9_steps 2 (some .int)) ({ frames := 1, cells := 0, slots := 0, locals := 22 } : Room) G (TY cI cJ cZ cB cQ) [.ref h0, .int p0] [(h0, oX9 b), (b 1, oX0 bc 0 0 0 0 0 0 0 0 0 0)] sz (fun (r : Int32) (u : Unit) => r = (-2)) (fun _ : Unit => [(h0, oX9 b), (b 1, oX0 bc 0 0 0 0 0 0 0 0 0 0)]) 0 0 := by
  refine CI.go (cc := cX9_steps) (maxL := 2) (ret := (some .int)) (by decide) rfl (Nat.le_of_ble_eq_true rfl) ?_
  intro p e s m below meth c A ls Q hBd hret
  obtain ⟨hx, hb, hr, hml, hts, hown, hlk, hnm, hP, hK, hD, hA, hZ, hl⟩ := hBd
  have hown : s.vm.findClass RX9 = some m.cls := hown
  have hl : lv_has ls 2 [(0, .ref h0), (1, .int p0)] := hl
  have hS : va_S A s.heap s.heap [] := va_S.rf
  refine lv_aload_n hx hb dX9_steps_0 rfl (lv_at hl 0 rfl) ?_
  refine va_get (D := G) (ci := 9) (v := .ref (b 1)) (C := RX9) (T := TX9) (N := 11) hx hb hts iG_X9 hown hK hP 0 rfl rfl 1 (by decide) (hts _ w_352) (fun _ h9 => h9) rfl dX9_steps_1 ?_
  refine lv_iload_n hx hb dX9_steps_4 rfl (lv_at hl 1 rfl) ?_
  obtain ⟨v1, ev1⟩ : ∃ y : Int64, p0.toInt64 = y := ⟨_, rfl⟩
  have tv1 : v1.toInt = p0.toInt := ti_wide rfl ev1
  refine lv_i2l (v := v1) hx hb dX9_steps_5 ev1 ?_
  refine k_i (wc := [(b 1, oX0 bc 0 0 0 0 0 0 0 0 0 0)]) (wr := [(h0, oX9 b)]) hP hD hS hA [1] [0] rfl rfl rfl (by decide) (va_runVN (As := [.long v1]) (rest := []) ⟨hx, hb, hml, hown, hts⟩ (f_X0_hasWidow l G cI cJ cZ cB cQ _ (b 1) bc v1) ⟨va_cnB (host := "WidowRoads") 1 hts (gW w_671) rfl rfl rfl (nz_nw hZ nw_668 rfl) (hts _ w_4) hd_X0_hasWidow ⟨Nat.le_of_ble_eq_true rfl, Nat.le_of_ble_eq_true rfl⟩, (hts _ w_670), (hts _ wp_35)⟩ (mV hK hZ hP hD [1] rfl rfl [.long v1] 1 0 rfl rfl) rfl rfl hl.1 rfl (lv_room (Nat.le_of_ble_eq_true rfl)) dX9_steps_6 ⟨Nat.le_of_ble_eq_true rfl, Nat.le_of_ble_eq_true rfl⟩) (fun r2 u3 H locs hw4 hP hD hS => ?_)
  try dsimp only at hw4
  have hP : va_P G vwCl [(h0, oX9 b), (b 1, oX0 bc 0 0 0 0 0 0 0 0 0 0)] H := hP
  have hD : va_D A [(h0, oX9 b), (b 1, oX0 bc 0 0 0 0 0 0 0 0 0 0)] := hD
  obtain rfl : r2 = 0 := hw4
  refine lv_if_eq (tgt := 24) hx hb dX9_steps_9 (by decide) (fun c5 => ?_) (fun c5 => absurd (by decide) c5)
  refine lv_bipush (v := (-2)) hx hb dX9_steps_24 (by decide) ?_
  exact hret _ _ _ _ (-2) () hP hD hS dX9_steps_26 rfl
set_option maxHeartbeats 4000000 in
set_option maxRecDepth 100000 in
theorem f_X9_stands (l : Launch) (G : va_G) (cI cJ cZ cB cQ : ClassId) (sz : Nat) (h0 : Nat) (b : Nat → Nat) (bc : Nat → Nat) (p0 : Int32) : CI l yX9_stands (wl_ yX9_stands cX9_stands 2 (some .int)) ({ frames := 1, cells := 0, slots := 0, locals := 22 } : Room) G (TY cI cJ cZ cB cQ) [.ref h0, .int p0] [(h0, oX9 b), (b 1, oX0 bc 0 0 0 0 0 0 0 0 0 0)] sz (fun (r : Int32) (u : Unit) => r = (-2)) (fun _ : Unit => [(h0, oX9 b), (b 1, oX0 bc 0 0 0 0 0 0 0 0 0 0)]) 0 0 := by
  refine CI.go (cc := cX9_stands) (maxL := 2) (ret := (some .int)) (by decide) rfl (Nat.le_of_ble_eq_true rfl) ?_
  intro p e s m below meth c A ls Q hBd hret
  obtain ⟨hx, hb, hr, hml, hts, hown, hlk, hnm, hP, hK, hD, hA, hZ, hl⟩ := hBd
  have hown : s.vm.findClass RX9 = some m.cls := hown
  have hl : lv_has ls 2 [(0, .ref h0), (1, .int p0)] := hl
  have hS : va_S A s.heap s.heap [] := va_S.rf
  refine lv_aload_n hx hb dX9_stands_0 rfl (lv_at hl 0 rfl) ?_
  refine va_get (D := G) (ci := 9) (v := .ref (b 1)) (C := RX9) (T := TX9) (N := 11) hx hb hts iG_X9 hown hK hP 0 rfl rfl 1 (by decide) (hts _ w_352) (fun _ h9 => h9) rfl dX9_stands_1 ?_
  refine lv_iload_n hx hb dX9_stands_4 rfl (lv_at hl 1 rfl) ?_
  obtain ⟨v1, ev1⟩ : ∃ y : Int64, p0.toInt64 = y := ⟨_, rfl⟩
  have tv1 : v1.toInt = p0.toInt := ti_wide rfl ev1
  refine lv_i2l (v := v1) hx hb dX9_stands_5 ev1 ?_
  refine k_i (wc := [(b 1, oX0 bc 0 0 0 0 0 0 0 0 0 0)]) (wr := [(h0, oX9 b)]) hP hD hS hA [1] [0] rfl rfl rfl (by decide) (va_runVN (As := [.long v1]) (rest := []) ⟨hx, hb, hml, hown, hts⟩ (f_X0_hasWidow l G cI cJ cZ cB cQ _ (b 1) bc v1) ⟨va_cnB (host := "WidowRoads") 1 hts (gW w_671) rfl rfl rfl (nz_nw hZ nw_668 rfl) (hts _ w_4) hd_X0_hasWidow ⟨Nat.le_of_ble_eq_true rfl, Nat.le_of_ble_eq_true rfl⟩, (hts _ w_670), (hts _ wp_35)⟩ (mV hK hZ hP hD [1] rfl rfl [.long v1] 1 0 rfl rfl) rfl rfl hl.1 rfl (lv_room (Nat.le_of_ble_eq_true rfl)) dX9_stands_6 ⟨Nat.le_of_ble_eq_true rfl, Nat.le_of_ble_eq_true rfl⟩) (fun r2 u3 H locs hw4 hP hD hS => ?_)
  try dsimp only at hw4
  have hP : va_P G vwCl [(h0, oX9 b), (b 1, oX0 bc 0 0 0 0 0 0 0 0 0 0)] H := hP
  have hD : va_D A [(h0, oX9 b), (b 1, oX0 bc 0 0 0 0 0 0 0 0 0 0)] := hD
  obtain rfl : r2 = 0 := hw4
  refine lv_if_ne (tgt := 15) hx hb dX9_stands_9 (by decide) (fun c5 => absurd (by decide) c5) (fun c5 => ?_)
  refine lv_bipush (v := (-2)) hx hb dX9_stands_12 (by decide) ?_
  exact hret _ _ _ _ (-2) () hP hD hS dX9_stands_14 rfl
set_option maxHeartbeats 4000000 in
set_option maxRecDepth 100000 in
theorem f_X9_ground (l : Launch) (G : va_G) (cI cJ cZ cB cQ : ClassId) (sz : Nat) (h0 : Nat) (b : Nat → Nat) (bc : Nat → Nat) (p0 : Int32) : CI l yX9_ground (wl_ yX9_ground cX9_ground 2 (some .int)) ({ frames := 1, cells := 0, slots := 0, locals := 22 } : Room) G (TY cI cJ cZ cB cQ) [.ref h0, .int p0] [(h0, oX9 b), (b 1, oX0 bc 0 0 0 0 0 0 0 0 0 0)] sz (fun (r : Int32) (u : Unit) => r = (-2)) (fun _ : Unit => [(h0, oX9 b), (b 1, oX0 bc 0 0 0 0 0 0 0 0 0 0)]) 0 0 := by
  refine CI.go (cc := cX9_ground) (maxL := 2) (ret := (some .int)) (by decide) rfl (Nat.le_of_ble_eq_true rfl) ?_
  intro p e s m below meth c A ls Q hBd hret
  obtain ⟨hx, hb, hr, hml, hts, hown, hlk, hnm, hP, hK, hD, hA, hZ, hl⟩ := hBd
  have hown : s.vm.findClass RX9 = some m.cls := hown
  have hl : lv_has ls 2 [(0, .ref h0), (1, .int p0)] := hl
  have hS : va_S A s.heap s.heap [] := va_S.rf
  refine lv_aload_n hx hb dX9_ground_0 rfl (lv_at hl 0 rfl) ?_
  refine va_get (D := G) (ci := 9) (v := .ref (b 1)) (C := RX9) (T := TX9) (N := 11) hx hb hts iG_X9 hown hK hP 0 rfl rfl 1 (by decide) (hts _ w_352) (fun _ h9 => h9) rfl dX9_ground_1 ?_
  refine lv_iload_n hx hb dX9_ground_4 rfl (lv_at hl 1 rfl) ?_
  obtain ⟨v1, ev1⟩ : ∃ y : Int64, p0.toInt64 = y := ⟨_, rfl⟩
  have tv1 : v1.toInt = p0.toInt := ti_wide rfl ev1
  refine lv_i2l (v := v1) hx hb dX9_ground_5 ev1 ?_
  refine k_i (wc := [(b 1, oX0 bc 0 0 0 0 0 0 0 0 0 0)]) (wr := [(h0, oX9 b)]) hP hD hS hA [1] [0] rfl rfl rfl (by decide) (va_runVN (As := [.long v1]) (rest := []) ⟨hx, hb, hml, hown, hts⟩ (f_X0_hasWidow l G cI cJ cZ cB cQ _ (b 1) bc v1) ⟨va_cnB (host := "WidowRoads") 1 hts (gW w_671) rfl rfl rfl (nz_nw hZ nw_668 rfl) (hts _ w_4) hd_X0_hasWidow ⟨Nat.le_of_ble_eq_true rfl, Nat.le_of_ble_eq_true rfl⟩, (hts _ w_670), (hts _ wp_35)⟩ (mV hK hZ hP hD [1] rfl rfl [.long v1] 1 0 rfl rfl) rfl rfl hl.1 rfl (lv_room (Nat.le_of_ble_eq_true rfl)) dX9_ground_6 ⟨Nat.le_of_ble_eq_true rfl, Nat.le_of_ble_eq_true rfl⟩) (fun r2 u3 H locs hw4 hP hD hS => ?_)
  try dsimp only at hw4
  have hP : va_P G vwCl [(h0, oX9 b), (b 1, oX0 bc 0 0 0 0 0 0 0 0 0 0)] H := hP
  have hD : va_D A [(h0, oX9 b), (b 1, oX0 bc 0 0 0 0 0 0 0 0 0 0)] := hD
  obtain rfl : r2 = 0 := hw4
  refine lv_if_ne (tgt := 15) hx hb dX9_ground_9 (by decide) (fun c5 => absurd (by decide) c5) (fun c5 => ?_)
  refine lv_bipush (v := (-2)) hx hb dX9_ground_12 (by decide) ?_
  exact hret _ _ _ _ (-2) () hP hD hS dX9_ground_14 rfl
set_option maxHeartbeats 4000000 in
set_option maxRecDepth 100000 in
theorem f_X9_loop (l : Launch) (G : va_G) (cI cJ cZ cB cQ : ClassId) (sz : Nat) (h0 : Nat) (b : Nat → Nat) (bc : Nat → Nat) (p0 : Int32) : CI l yX9_loop (wl_ yX9_loop cX9_loop 4 (some .int)) ({ frames := 1, cells := 0, slots := 0, locals := 22 } : Room) G (TY cI cJ cZ cB cQ) [.ref h0, .int p0] [(h0, oX9 b), (b 1, oX0 bc 0 0 0 0 0 0 0 0 0 0)] sz (fun (r : Int32) (u : Unit) => r = (-2)) (fun _ : Unit => [(h0, oX9 b), (b 1, oX0 bc 0 0 0 0 0 0 0 0 0 0)]) 0 0 := by
  refine CI.go (cc := cX9_loop) (maxL := 4) (ret := (some .int)) (by decide) rfl (Nat.le_of_ble_eq_true rfl) ?_
  intro p e s m below meth c A ls Q hBd hret
  obtain ⟨hx, hb, hr, hml, hts, hown, hlk, hnm, hP, hK, hD, hA, hZ, hl⟩ := hBd
  have hown : s.vm.findClass RX9 = some m.cls := hown
  have hl : lv_has ls 4 [(0, .ref h0), (1, .int p0)] := hl
  have hS : va_S A s.heap s.heap [] := va_S.rf
  refine lv_aload_n hx hb dX9_loop_0 rfl (lv_at hl 0 rfl) ?_
  refine va_get (D := G) (ci := 9) (v := .ref (b 1)) (C := RX9) (T := TX9) (N := 11) hx hb hts iG_X9 hown hK hP 0 rfl rfl 1 (by decide) (hts _ w_352) (fun _ h9 => h9) rfl dX9_loop_1 ?_
  refine lv_iload_n hx hb dX9_loop_4 rfl (lv_at hl 1 rfl) ?_
  obtain ⟨v1, ev1⟩ : ∃ y : Int64, p0.toInt64 = y := ⟨_, rfl⟩
  have tv1 : v1.toInt = p0.toInt := ti_wide rfl ev1
  refine lv_i2l (v := v1) hx hb dX9_loop_5 ev1 ?_
  refine k_i (wc := [(b 1, oX0 bc 0 0 0 0 0 0 0 0 0 0)]) (wr := [(h0, oX9 b)]) hP hD hS hA [1] [0] rfl rfl rfl (by decide) (va_runVN (As := [.long v1]) (rest := []) ⟨hx, hb, hml, hown, hts⟩ (f_X0_hasWidow l G cI cJ cZ cB cQ _ (b 1) bc v1) ⟨va_cnB (host := "WidowRoads") 1 hts (gW w_671) rfl rfl rfl (nz_nw hZ nw_668 rfl) (hts _ w_4) hd_X0_hasWidow ⟨Nat.le_of_ble_eq_true rfl, Nat.le_of_ble_eq_true rfl⟩, (hts _ w_670), (hts _ wp_35)⟩ (mV hK hZ hP hD [1] rfl rfl [.long v1] 1 0 rfl rfl) rfl rfl hl.1 rfl (lv_room (Nat.le_of_ble_eq_true rfl)) dX9_loop_6 ⟨Nat.le_of_ble_eq_true rfl, Nat.le_of_ble_eq_true rfl⟩) (fun r2 u3 H locs hw4 hP hD hS => ?_)
  try dsimp only at hw4
  have hP : va_P G vwCl [(h0, oX9 b), (b 1, oX0 bc 0 0 0 0 0 0 0 0 0 0)] H := hP
  have hD : va_D A [(h0, oX9 b), (b 1, oX0 bc 0 0 0 0 0 0 0 0 0 0)] := hD
  obtain rfl : r2 = 0 := hw4
  refine lv_if_ne (tgt := 15) hx hb dX9_loop_9 (by decide) (fun c5 => absurd (by decide) c5) (fun c5 => ?_)
  refine lv_bipush (v := (-2)) hx hb dX9_loop_12 (by decide) ?_
  exact hret _ _ _ _ (-2) () hP hD hS dX9_loop_14 rfl
set_option maxHeartbeats 4000000 in
set_option maxRecDepth 100000 in
theorem f_X9_haunt (l : Launch) (G : va_G) (cI cJ cZ cB cQ : ClassId) (sz : Nat) (h0 : Nat) (b : Nat → Nat) (bc : Nat → Nat) (p0 : Int32) : CI l yX9_haunt (wl_ yX9_haunt cX9_haunt 6 (some .int)) ({ frames := 1, cells := 0, slots := 0, locals := 22 } : Room) G (TY cI cJ cZ cB cQ) [.ref h0, .int p0] [(h0, oX9 b), (b 1, oX0 bc 0 0 0 0 0 0 0 0 0 0)] sz (fun (r : Int32) (u : Unit) => r = (-2)) (fun _ : Unit => [(h0, oX9 b), (b 1, oX0 bc 0 0 0 0 0 0 0 0 0 0)]) 0 0 := by
  refine CI.go (cc := cX9_haunt) (maxL := 6) (ret := (some .int)) (by decide) rfl (Nat.le_of_ble_eq_true rfl) ?_
  intro p e s m below meth c A ls Q hBd hret
  obtain ⟨hx, hb, hr, hml, hts, hown, hlk, hnm, hP, hK, hD, hA, hZ, hl⟩ := hBd
  have hown : s.vm.findClass RX9 = some m.cls := hown
  have hl : lv_has ls 6 [(0, .ref h0), (1, .int p0)] := hl
  have hS : va_S A s.heap s.heap [] := va_S.rf
  refine lv_aload_n hx hb dX9_haunt_0 rfl (lv_at hl 0 rfl) ?_
  refine va_get (D := G) (ci := 9) (v := .ref (b 1)) (C := RX9) (T := TX9) (N := 11) hx hb hts iG_X9 hown hK hP 0 rfl rfl 1 (by decide) (hts _ w_352) (fun _ h9 => h9) rfl dX9_haunt_1 ?_
  refine lv_iload_n hx hb dX9_haunt_4 rfl (lv_at hl 1 rfl) ?_
  obtain ⟨v1, ev1⟩ : ∃ y : Int64, p0.toInt64 = y := ⟨_, rfl⟩
  have tv1 : v1.toInt = p0.toInt := ti_wide rfl ev1
  refine lv_i2l (v := v1) hx hb dX9_haunt_5 ev1 ?_
  refine k_i (wc := [(b 1, oX0 bc 0 0 0 0 0 0 0 0 0 0)]) (wr := [(h0, oX9 b)]) hP hD hS hA [1] [0] rfl rfl rfl (by decide) (va_runVN (As := [.long v1]) (rest := []) ⟨hx, hb, hml, hown, hts⟩ (f_X0_hasWidow l G cI cJ cZ cB cQ _ (b 1) bc v1) ⟨va_cnB (host := "WidowRoads") 1 hts (gW w_671) rfl rfl rfl (nz_nw hZ nw_668 rfl) (hts _ w_4) hd_X0_hasWidow ⟨Nat.le_of_ble_eq_true rfl, Nat.le_of_ble_eq_true rfl⟩, (hts _ w_670), (hts _ wp_35)⟩ (mV hK hZ hP hD [1] rfl rfl [.long v1] 1 0 rfl rfl) rfl rfl hl.1 rfl (lv_room (Nat.le_of_ble_eq_true rfl)) dX9_haunt_6 ⟨Nat.le_of_ble_eq_true rfl, Nat.le_of_ble_eq_true rfl⟩) (fun r2 u3 H locs hw4 hP hD hS => ?_)
  try dsimp only at hw4
  have hP : va_P G vwCl [(h0, oX9 b), (b 1, oX0 bc 0 0 0 0 0 0 0 0 0 0)] H := hP
  have hD : va_D A [(h0, oX9 b), (b 1, oX0 bc 0 0 0 0 0 0 0 0 0 0)] := hD
  obtain rfl : r2 = 0 := hw4
  refine lv_if_ne (tgt := 15) hx hb dX9_haunt_9 (by decide) (fun c5 => absurd (by decide) c5) (fun c5 => ?_)
  refine lv_bipush (v := (-2)) hx hb dX9_haunt_12 (by decide) ?_
  exact hret _ _ _ _ (-2) () hP hD hS dX9_haunt_14 rfl
set_option maxHeartbeats 4000000 in
set_option maxRecDepth 100000 in
theorem f_X9_evening (l : Launch) (G : va_G) (cI cJ cZ cB cQ : ClassId) (sz : Nat) (h0 : Nat) (b : Nat → Nat) (bc : Nat → Nat) (p0 : Int32) : CI l yX9_evening (wl_ yX9_evening cX9_evening 4 (some .int)) ({ frames := 1, cells := 0, slots := 0, locals := 21 } : Room) G (TY cI cJ cZ cB cQ) [.ref h0, .int p0] [(h0, oX9 b), (b 1, oX0 bc 0 0 0 0 0 0 0 0 0 0)] sz (fun (r : Int32) (u : Unit) => r = (-2)) (fun _ : Unit => [(h0, oX9 b), (b 1, oX0 bc 0 0 0 0 0 0 0 0 0 0)]) 0 0 := by
  refine CI.go (cc := cX9_evening) (maxL := 4) (ret := (some .int)) (by decide) rfl (Nat.le_of_ble_eq_true rfl) ?_
  intro p e s m below meth c A ls Q hBd hret
  obtain ⟨hx, hb, hr, hml, hts, hown, hlk, hnm, hP, hK, hD, hA, hZ, hl⟩ := hBd
  have hown : s.vm.findClass RX9 = some m.cls := hown
  have hl : lv_has ls 4 [(0, .ref h0), (1, .int p0)] := hl
  have hS : va_S A s.heap s.heap [] := va_S.rf
  refine lv_aload_n hx hb dX9_evening_0 rfl (lv_at hl 0 rfl) ?_
  refine va_get (D := G) (ci := 9) (v := .ref (b 1)) (C := RX9) (T := TX9) (N := 11) hx hb hts iG_X9 hown hK hP 0 rfl rfl 1 (by decide) (hts _ w_352) (fun _ h9 => h9) rfl dX9_evening_1 ?_
  refine lv_iload_n hx hb dX9_evening_4 rfl (lv_at hl 1 rfl) ?_
  refine k_i (wc := [(b 1, oX0 bc 0 0 0 0 0 0 0 0 0 0)]) (wr := [(h0, oX9 b)]) hP hD hS hA [1] [0] rfl rfl rfl (by decide) (va_runVN (As := [.int p0]) (rest := []) ⟨hx, hb, hml, hown, hts⟩ (f_X0_hasYear l G cI cJ cZ cB cQ _ (b 1) bc p0) ⟨va_cnB (host := "WidowRoads") 1 hts (gW w_727) rfl rfl rfl (nz_nw hZ nw_724 rfl) (hts _ w_4) hd_X0_hasYear ⟨Nat.le_of_ble_eq_true rfl, Nat.le_of_ble_eq_true rfl⟩, (hts _ w_726), (hts _ wp_39)⟩ (mV hK hZ hP hD [1] rfl rfl [.int p0] 1 0 rfl rfl) rfl rfl hl.1 rfl (lv_room (Nat.le_of_ble_eq_true rfl)) dX9_evening_5 ⟨Nat.le_of_ble_eq_true rfl, Nat.le_of_ble_eq_true rfl⟩) (fun r1 u2 H locs hw3 hP hD hS => ?_)
  try dsimp only at hw3
  have hP : va_P G vwCl [(h0, oX9 b), (b 1, oX0 bc 0 0 0 0 0 0 0 0 0 0)] H := hP
  have hD : va_D A [(h0, oX9 b), (b 1, oX0 bc 0 0 0 0 0 0 0 0 0 0)] := hD
  obtain rfl : r1 = 0 := hw3
  refine lv_if_eq (tgt := 22) hx hb dX9_evening_8 (by decide) (fun c4 => ?_) (fun c4 => absurd (by decide) c4)
  refine lv_bipush (v := (-2)) hx hb dX9_evening_22 (by decide) ?_
  exact hret _ _ _ _ (-2) () hP hD hS dX9_evening_24 rfl
set_option maxHeartbeats 4000000 in
set_option maxRecDepth 100000 in
theorem f_X9_visits (l : Launch) (G : va_G) (cI cJ cZ cB cQ : ClassId) (sz : Nat) (h0 : Nat) (b : Nat → Nat) (bc : Nat → Nat) (p0 : Int32) (p1 : Int32) : CI l yX9_visits (wl_ yX9_visits cX9_visits 4 (some .int)) ({ frames := 1, cells := 0, slots := 0, locals := 22 } : Room) G (TY cI cJ cZ cB cQ) [.ref h0, .int p0, .int p1] [(h0, oX9 b), (b 1, oX0 bc 0 0 0 0 0 0 0 0 0 0)] sz (fun (r : Int32) (u : Unit) => r = (-2)) (fun _ : Unit => [(h0, oX9 b), (b 1, oX0 bc 0 0 0 0 0 0 0 0 0 0)]) 0 0 := by
  refine CI.go (cc := cX9_visits) (maxL := 4) (ret := (some .int)) (by decide) rfl (Nat.le_of_ble_eq_true rfl) ?_
  intro p e s m below meth c A ls Q hBd hret
  obtain ⟨hx, hb, hr, hml, hts, hown, hlk, hnm, hP, hK, hD, hA, hZ, hl⟩ := hBd
  have hown : s.vm.findClass RX9 = some m.cls := hown
  have hl : lv_has ls 4 [(0, .ref h0), (1, .int p0), (2, .int p1)] := hl
  have hS : va_S A s.heap s.heap [] := va_S.rf
  refine lv_aload_n hx hb dX9_visits_0 rfl (lv_at hl 0 rfl) ?_
  refine va_get (D := G) (ci := 9) (v := .ref (b 1)) (C := RX9) (T := TX9) (N := 11) hx hb hts iG_X9 hown hK hP 0 rfl rfl 1 (by decide) (hts _ w_352) (fun _ h9 => h9) rfl dX9_visits_1 ?_
  refine lv_iload_n hx hb dX9_visits_4 rfl (lv_at hl 2 rfl) ?_
  obtain ⟨v1, ev1⟩ : ∃ y : Int64, p1.toInt64 = y := ⟨_, rfl⟩
  have tv1 : v1.toInt = p1.toInt := ti_wide rfl ev1
  refine lv_i2l (v := v1) hx hb dX9_visits_5 ev1 ?_
  refine k_i (wc := [(b 1, oX0 bc 0 0 0 0 0 0 0 0 0 0)]) (wr := [(h0, oX9 b)]) hP hD hS hA [1] [0] rfl rfl rfl (by decide) (va_runVN (As := [.long v1]) (rest := []) ⟨hx, hb, hml, hown, hts⟩ (f_X0_spotOf l G cI cJ cZ cB cQ _ (b 1) bc v1) ⟨va_cnB (host := "WidowRoads") 1 hts (gW w_656) rfl rfl rfl (nz_nw hZ nw_653 rfl) (hts _ w_4) hd_X0_spotOf ⟨Nat.le_of_ble_eq_true rfl, Nat.le_of_ble_eq_true rfl⟩, (hts _ w_655), (hts _ wp_34)⟩ (mV hK hZ hP hD [1] rfl rfl [.long v1] 1 0 rfl rfl) rfl rfl hl.1 rfl (lv_room (Nat.le_of_ble_eq_true rfl)) dX9_visits_6 ⟨Nat.le_of_ble_eq_true rfl, Nat.le_of_ble_eq_true rfl⟩) (fun r2 u3 H locs hw4 hP hD hS => ?_)
  try dsimp only at hw4
  have hP : va_P G vwCl [(h0, oX9 b), (b 1, oX0 bc 0 0 0 0 0 0 0 0 0 0)] H := hP
  have hD : va_D A [(h0, oX9 b), (b 1, oX0 bc 0 0 0 0 0 0 0 0 0 0)] := hD
  obtain rfl : r2 = (-1) := hw4
  refine lv_istore_n (lv' := [(3, .int (-1)), (0, .ref h0), (1, .int p0), (2, .int p1)]) hx hb dX9_visits_9 rfl hl (by decide) rfl (fun ls hl => ?_)
  refine lv_aload_n hx hb dX9_visits_10 rfl (lv_at hl 1 rfl) ?_
  refine va_get (D := G) (ci := 9) (v := .ref (b 1)) (C := RX9) (T := TX9) (N := 11) hx hb hts iG_X9 hown hK hP 0 rfl rfl 1 (by decide) (hts _ w_352) (fun _ h9 => h9) rfl dX9_visits_11 ?_
  refine lv_iload_n hx hb dX9_visits_14 rfl (lv_at hl 2 rfl) ?_
  obtain ⟨v5, ev5⟩ : ∃ y : Int64, p0.toInt64 = y := ⟨_, rfl⟩
  have tv5 : v5.toInt = p0.toInt := ti_wide rfl ev5
  refine lv_i2l (v := v5) hx hb dX9_visits_15 ev5 ?_
  refine k_i (wc := [(b 1, oX0 bc 0 0 0 0 0 0 0 0 0 0)]) (wr := [(h0, oX9 b)]) hP hD hS hA [1] [0] rfl rfl rfl (by decide) (va_runVN (As := [.long v5]) (rest := []) ⟨hx, hb, hml, hown, hts⟩ (f_X0_hasWidow l G cI cJ cZ cB cQ _ (b 1) bc v5) ⟨va_cnB (host := "WidowRoads") 1 hts (gW w_671) rfl rfl rfl (nz_nw hZ nw_668 rfl) (hts _ w_4) hd_X0_hasWidow ⟨Nat.le_of_ble_eq_true rfl, Nat.le_of_ble_eq_true rfl⟩, (hts _ w_670), (hts _ wp_35)⟩ (mV hK hZ hP hD [1] rfl rfl [.long v5] 1 0 rfl rfl) rfl rfl hl.1 rfl (lv_room (Nat.le_of_ble_eq_true rfl)) dX9_visits_16 ⟨Nat.le_of_ble_eq_true rfl, Nat.le_of_ble_eq_true rfl⟩) (fun r6 u7 H locs hw8 hP hD hS => ?_)
  try dsimp only at hw8
  have hP : va_P G vwCl [(h0, oX9 b), (b 1, oX0 bc 0 0 0 0 0 0 0 0 0 0)] H := hP
  have hD : va_D A [(h0, oX9 b), (b 1, oX0 bc 0 0 0 0 0 0 0 0 0 0)] := hD
  obtain rfl : r6 = 0 := hw8
  refine lv_if_eq (tgt := 27) hx hb dX9_visits_19 (by decide) (fun c9 => ?_) (fun c9 => absurd (by decide) c9)
  refine lv_bipush (v := (-2)) hx hb dX9_visits_27 (by decide) ?_
  exact hret _ _ _ _ (-2) () hP hD hS dX9_visits_29 rfl
set_option maxHeartbeats 4000000 in
set_option maxRecDepth 100000 in
theorem f_X9_straight (l : Launch) (G : va_G) (cI cJ cZ cB cQ : ClassId) (sz : Nat) (h0 : Nat) (b : Nat → Nat) (bc : Nat → Nat) (p0 : Int32) : CI l yX9_straight (wl_ yX9_straight cX9_straight 3 (some .int)) ({ frames := 1, cells := 0, slots := 0, locals := 22 } : Room) G (TY cI cJ cZ cB cQ) [.ref h0, .int p0] [(h0, oX9 b), (b 1, oX0 bc 0 0 0 0 0 0 0 0 0 0)] sz (fun (r : Int32) (u : Unit) => r = (-2)) (fun _ : Unit => [(h0, oX9 b), (b 1, oX0 bc 0 0 0 0 0 0 0 0 0 0)]) 0 0 := by
  refine CI.go (cc := cX9_straight) (maxL := 3) (ret := (some .int)) (by decide) rfl (Nat.le_of_ble_eq_true rfl) ?_
  intro p e s m below meth c A ls Q hBd hret
  obtain ⟨hx, hb, hr, hml, hts, hown, hlk, hnm, hP, hK, hD, hA, hZ, hl⟩ := hBd
  have hown : s.vm.findClass RX9 = some m.cls := hown
  have hl : lv_has ls 3 [(0, .ref h0), (1, .int p0)] := hl
  have hS : va_S A s.heap s.heap [] := va_S.rf
  refine lv_aload_n hx hb dX9_straight_0 rfl (lv_at hl 0 rfl) ?_
  refine va_get (D := G) (ci := 9) (v := .ref (b 1)) (C := RX9) (T := TX9) (N := 11) hx hb hts iG_X9 hown hK hP 0 rfl rfl 1 (by decide) (hts _ w_352) (fun _ h9 => h9) rfl dX9_straight_1 ?_
  refine lv_iload_n hx hb dX9_straight_4 rfl (lv_at hl 1 rfl) ?_
  obtain ⟨v1, ev1⟩ : ∃ y : Int64, p0.toInt64 = y := ⟨_, rfl⟩
  have tv1 : v1.toInt = p0.toInt := ti_wide rfl ev1
  refine lv_i2l (v := v1) hx hb dX9_straight_5 ev1 ?_
  refine k_i (wc := [(b 1, oX0 bc 0 0 0 0 0 0 0 0 0 0)]) (wr := [(h0, oX9 b)]) hP hD hS hA [1] [0] rfl rfl rfl (by decide) (va_runVN (As := [.long v1]) (rest := []) ⟨hx, hb, hml, hown, hts⟩ (f_X0_hasWidow l G cI cJ cZ cB cQ _ (b 1) bc v1) ⟨va_cnB (host := "WidowRoads") 1 hts (gW w_671) rfl rfl rfl (nz_nw hZ nw_668 rfl) (hts _ w_4) hd_X0_hasWidow ⟨Nat.le_of_ble_eq_true rfl, Nat.le_of_ble_eq_true rfl⟩, (hts _ w_670), (hts _ wp_35)⟩ (mV hK hZ hP hD [1] rfl rfl [.long v1] 1 0 rfl rfl) rfl rfl hl.1 rfl (lv_room (Nat.le_of_ble_eq_true rfl)) dX9_straight_6 ⟨Nat.le_of_ble_eq_true rfl, Nat.le_of_ble_eq_true rfl⟩) (fun r2 u3 H locs hw4 hP hD hS => ?_)
  try dsimp only at hw4
  have hP : va_P G vwCl [(h0, oX9 b), (b 1, oX0 bc 0 0 0 0 0 0 0 0 0 0)] H := hP
  have hD : va_D A [(h0, oX9 b), (b 1, oX0 bc 0 0 0 0 0 0 0 0 0 0)] := hD
  obtain rfl : r2 = 0 := hw4
  refine lv_if_ne (tgt := 15) hx hb dX9_straight_9 (by decide) (fun c5 => absurd (by decide) c5) (fun c5 => ?_)
  refine lv_bipush (v := (-2)) hx hb dX9_straight_12 (by decide) ?_
  exact hret _ _ _ _ (-2) () hP hD hS dX9_straight_14 rfl
set_option maxHeartbeats 4000000 in
set_option maxRecDepth 100000 in
theorem f_X9_road (l : Launch) (G : va_G) (cI cJ cZ cB cQ : ClassId) (sz : Nat) (h0 : Nat) (b : Nat → Nat) (bc : Nat → Nat) (p0 : Int32) (p1 : Int32) : CI l yX9_road (wl_ yX9_road cX9_road 4 (some .int)) ({ frames := 1, cells := 0, slots := 0, locals := 22 } : Room) G (TY cI cJ cZ cB cQ) [.ref h0, .int p0, .int p1] [(h0, oX9 b), (b 1, oX0 bc 0 0 0 0 0 0 0 0 0 0)] sz (fun (r : Int32) (u : Unit) => r = (-2)) (fun _ : Unit => [(h0, oX9 b), (b 1, oX0 bc 0 0 0 0 0 0 0 0 0 0)]) 0 0 := by
  refine CI.go (cc := cX9_road) (maxL := 4) (ret := (some .int)) (by decide) rfl (Nat.le_of_ble_eq_true rfl) ?_
  intro p e s m below meth c A ls Q hBd hret
  obtain ⟨hx, hb, hr, hml, hts, hown, hlk, hnm, hP, hK, hD, hA, hZ, hl⟩ := hBd
  have hown : s.vm.findClass RX9 = some m.cls := hown
  have hl : lv_has ls 4 [(0, .ref h0), (1, .int p0), (2, .int p1)] := hl
  have hS : va_S A s.heap s.heap [] := va_S.rf
  refine lv_aload_n hx hb dX9_road_0 rfl (lv_at hl 0 rfl) ?_
  refine va_get (D := G) (ci := 9) (v := .ref (b 1)) (C := RX9) (T := TX9) (N := 11) hx hb hts iG_X9 hown hK hP 0 rfl rfl 1 (by decide) (hts _ w_352) (fun _ h9 => h9) rfl dX9_road_1 ?_
  refine lv_iload_n hx hb dX9_road_4 rfl (lv_at hl 1 rfl) ?_
  obtain ⟨v1, ev1⟩ : ∃ y : Int64, p0.toInt64 = y := ⟨_, rfl⟩
  have tv1 : v1.toInt = p0.toInt := ti_wide rfl ev1
  refine lv_i2l (v := v1) hx hb dX9_road_5 ev1 ?_
  refine k_i (wc := [(b 1, oX0 bc 0 0 0 0 0 0 0 0 0 0)]) (wr := [(h0, oX9 b)]) hP hD hS hA [1] [0] rfl rfl rfl (by decide) (va_runVN (As := [.long v1]) (rest := []) ⟨hx, hb, hml, hown, hts⟩ (f_X0_spotOf l G cI cJ cZ cB cQ _ (b 1) bc v1) ⟨va_cnB (host := "WidowRoads") 1 hts (gW w_656) rfl rfl rfl (nz_nw hZ nw_653 rfl) (hts _ w_4) hd_X0_spotOf ⟨Nat.le_of_ble_eq_true rfl, Nat.le_of_ble_eq_true rfl⟩, (hts _ w_655), (hts _ wp_34)⟩ (mV hK hZ hP hD [1] rfl rfl [.long v1] 1 0 rfl rfl) rfl rfl hl.1 rfl (lv_room (Nat.le_of_ble_eq_true rfl)) dX9_road_6 ⟨Nat.le_of_ble_eq_true rfl, Nat.le_of_ble_eq_true rfl⟩) (fun r2 u3 H locs hw4 hP hD hS => ?_)
  try dsimp only at hw4
  have hP : va_P G vwCl [(h0, oX9 b), (b 1, oX0 bc 0 0 0 0 0 0 0 0 0 0)] H := hP
  have hD : va_D A [(h0, oX9 b), (b 1, oX0 bc 0 0 0 0 0 0 0 0 0 0)] := hD
  obtain rfl : r2 = (-1) := hw4
  refine lv_istore_n (lv' := [(3, .int (-1)), (0, .ref h0), (1, .int p0), (2, .int p1)]) hx hb dX9_road_9 rfl hl (by decide) rfl (fun ls hl => ?_)
  refine lv_iload_n hx hb dX9_road_10 rfl (lv_at hl 0 rfl) ?_
  refine lv_iconst (v := (-1)) hx hb dX9_road_11 (by decide) ?_
  refine lv_icmp_eq (tgt := 26) hx hb dX9_road_12 (by decide) (fun c5 => ?_) (fun c5 => absurd (by decide) c5)
  refine lv_bipush (v := (-2)) hx hb dX9_road_26 (by decide) ?_
  exact hret _ _ _ _ (-2) () hP hD hS dX9_road_28 rfl
set_option maxHeartbeats 4000000 in
set_option maxRecDepth 100000 in
theorem f_X9_roads (l : Launch) (G : va_G) (cI cJ cZ cB cQ : ClassId) (sz : Nat) (h0 : Nat) (b : Nat → Nat) (bc : Nat → Nat) (p0 : Int32) : CI l yX9_roads (wl_ yX9_roads cX9_roads 2 (some .int)) ({ frames := 1, cells := 0, slots := 0, locals := 21 } : Room) G (TY cI cJ cZ cB cQ) [.ref h0, .int p0] [(h0, oX9 b), (b 1, oX0 bc 0 0 0 0 0 0 0 0 0 0)] sz (fun (r : Int32) (u : Unit) => r = (-2)) (fun _ : Unit => [(h0, oX9 b), (b 1, oX0 bc 0 0 0 0 0 0 0 0 0 0)]) 0 0 := by
  refine CI.go (cc := cX9_roads) (maxL := 2) (ret := (some .int)) (by decide) rfl (Nat.le_of_ble_eq_true rfl) ?_
  intro p e s m below meth c A ls Q hBd hret
  obtain ⟨hx, hb, hr, hml, hts, hown, hlk, hnm, hP, hK, hD, hA, hZ, hl⟩ := hBd
  have hown : s.vm.findClass RX9 = some m.cls := hown
  have hl : lv_has ls 2 [(0, .ref h0), (1, .int p0)] := hl
  have hS : va_S A s.heap s.heap [] := va_S.rf
  refine lv_aload_n hx hb dX9_roads_0 rfl (lv_at hl 0 rfl) ?_
  refine va_get (D := G) (ci := 9) (v := .ref (b 1)) (C := RX9) (T := TX9) (N := 11) hx hb hts iG_X9 hown hK hP 0 rfl rfl 1 (by decide) (hts _ w_352) (fun _ h9 => h9) rfl dX9_roads_1 ?_
  refine lv_iload_n hx hb dX9_roads_4 rfl (lv_at hl 1 rfl) ?_
  refine k_i (wc := [(b 1, oX0 bc 0 0 0 0 0 0 0 0 0 0)]) (wr := [(h0, oX9 b)]) hP hD hS hA [1] [0] rfl rfl rfl (by decide) (va_runVN (As := [.int p0]) (rest := []) ⟨hx, hb, hml, hown, hts⟩ (f_X0_hasYear l G cI cJ cZ cB cQ _ (b 1) bc p0) ⟨va_cnB (host := "WidowRoads") 1 hts (gW w_727) rfl rfl rfl (nz_nw hZ nw_724 rfl) (hts _ w_4) hd_X0_hasYear ⟨Nat.le_of_ble_eq_true rfl, Nat.le_of_ble_eq_true rfl⟩, (hts _ w_726), (hts _ wp_39)⟩ (mV hK hZ hP hD [1] rfl rfl [.int p0] 1 0 rfl rfl) rfl rfl hl.1 rfl (lv_room (Nat.le_of_ble_eq_true rfl)) dX9_roads_5 ⟨Nat.le_of_ble_eq_true rfl, Nat.le_of_ble_eq_true rfl⟩) (fun r1 u2 H locs hw3 hP hD hS => ?_)
  try dsimp only at hw3
  have hP : va_P G vwCl [(h0, oX9 b), (b 1, oX0 bc 0 0 0 0 0 0 0 0 0 0)] H := hP
  have hD : va_D A [(h0, oX9 b), (b 1, oX0 bc 0 0 0 0 0 0 0 0 0 0)] := hD
  obtain rfl : r1 = 0 := hw3
  refine lv_if_eq (tgt := 26) hx hb dX9_roads_8 (by decide) (fun c4 => ?_) (fun c4 => absurd (by decide) c4)
  refine lv_bipush (v := (-2)) hx hb dX9_roads_26 (by decide) ?_
  exact hret _ _ _ _ (-2) () hP hD hS dX9_roads_28 rfl
set_option maxHeartbeats 4000000 in
set_option maxRecDepth 100000 in
theorem f_X9_pegs (l : Launch) (G : va_G) (cI cJ cZ cB cQ : ClassId) (sz : Nat) (h0 : Nat) (b : Nat → Nat) (bc : Nat → Nat) (p0 : Int32) : CI l yX9_pegs (wl_ yX9_pegs cX9_pegs 2 (some .int)) ({ frames := 1, cells := 0, slots := 0, locals := 21 } : Room) G (TY cI cJ cZ cB cQ) [.ref h0, .int p0] [(h0, oX9 b), (b 1, oX0 bc 0 0 0 0 0 0 0 0 0 0)] sz (fun (r : Int32) (u : Unit) => r = (-2)) (fun _ : Unit => [(h0, oX9 b), (b 1, oX0 bc 0 0 0 0 0 0 0 0 0 0)]) 0 0 := by
  refine CI.go (cc := cX9_pegs) (maxL := 2) (ret := (some .int)) (by decide) rfl (Nat.le_of_ble_eq_true rfl) ?_
  intro p e s m below meth c A ls Q hBd hret
  obtain ⟨hx, hb, hr, hml, hts, hown, hlk, hnm, hP, hK, hD, hA, hZ, hl⟩ := hBd
  have hown : s.vm.findClass RX9 = some m.cls := hown
  have hl : lv_has ls 2 [(0, .ref h0), (1, .int p0)] := hl
  have hS : va_S A s.heap s.heap [] := va_S.rf
  refine lv_aload_n hx hb dX9_pegs_0 rfl (lv_at hl 0 rfl) ?_
  refine va_get (D := G) (ci := 9) (v := .ref (b 1)) (C := RX9) (T := TX9) (N := 11) hx hb hts iG_X9 hown hK hP 0 rfl rfl 1 (by decide) (hts _ w_352) (fun _ h9 => h9) rfl dX9_pegs_1 ?_
  refine lv_iload_n hx hb dX9_pegs_4 rfl (lv_at hl 1 rfl) ?_
  refine k_i (wc := [(b 1, oX0 bc 0 0 0 0 0 0 0 0 0 0)]) (wr := [(h0, oX9 b)]) hP hD hS hA [1] [0] rfl rfl rfl (by decide) (va_runVN (As := [.int p0]) (rest := []) ⟨hx, hb, hml, hown, hts⟩ (f_X0_hasYear l G cI cJ cZ cB cQ _ (b 1) bc p0) ⟨va_cnB (host := "WidowRoads") 1 hts (gW w_727) rfl rfl rfl (nz_nw hZ nw_724 rfl) (hts _ w_4) hd_X0_hasYear ⟨Nat.le_of_ble_eq_true rfl, Nat.le_of_ble_eq_true rfl⟩, (hts _ w_726), (hts _ wp_39)⟩ (mV hK hZ hP hD [1] rfl rfl [.int p0] 1 0 rfl rfl) rfl rfl hl.1 rfl (lv_room (Nat.le_of_ble_eq_true rfl)) dX9_pegs_5 ⟨Nat.le_of_ble_eq_true rfl, Nat.le_of_ble_eq_true rfl⟩) (fun r1 u2 H locs hw3 hP hD hS => ?_)
  try dsimp only at hw3
  have hP : va_P G vwCl [(h0, oX9 b), (b 1, oX0 bc 0 0 0 0 0 0 0 0 0 0)] H := hP
  have hD : va_D A [(h0, oX9 b), (b 1, oX0 bc 0 0 0 0 0 0 0 0 0 0)] := hD
  obtain rfl : r1 = 0 := hw3
  refine lv_if_eq (tgt := 22) hx hb dX9_pegs_8 (by decide) (fun c4 => ?_) (fun c4 => absurd (by decide) c4)
  refine lv_bipush (v := (-2)) hx hb dX9_pegs_22 (by decide) ?_
  exact hret _ _ _ _ (-2) () hP hD hS dX9_pegs_24 rfl
set_option maxHeartbeats 4000000 in
set_option maxRecDepth 100000 in
theorem f_X9_joins (l : Launch) (G : va_G) (cI cJ cZ cB cQ : ClassId) (sz : Nat) (h0 : Nat) (b : Nat → Nat) (bc : Nat → Nat) (p0 : Int32) (p1 : Int32) : CI l yX9_joins (wl_ yX9_joins cX9_joins 4 (some .int)) ({ frames := 1, cells := 0, slots := 0, locals := 22 } : Room) G (TY cI cJ cZ cB cQ) [.ref h0, .int p0, .int p1] [(h0, oX9 b), (b 1, oX0 bc 0 0 0 0 0 0 0 0 0 0)] sz (fun (r : Int32) (u : Unit) => r = (-2)) (fun _ : Unit => [(h0, oX9 b), (b 1, oX0 bc 0 0 0 0 0 0 0 0 0 0)]) 0 0 := by
  refine CI.go (cc := cX9_joins) (maxL := 4) (ret := (some .int)) (by decide) rfl (Nat.le_of_ble_eq_true rfl) ?_
  intro p e s m below meth c A ls Q hBd hret
  obtain ⟨hx, hb, hr, hml, hts, hown, hlk, hnm, hP, hK, hD, hA, hZ, hl⟩ := hBd
  have hown : s.vm.findClass RX9 = some m.cls := hown
  have hl : lv_has ls 4 [(0, .ref h0), (1, .int p0), (2, .int p1)] := hl
  have hS : va_S A s.heap s.heap [] := va_S.rf
  refine lv_aload_n hx hb dX9_joins_0 rfl (lv_at hl 0 rfl) ?_
  refine va_get (D := G) (ci := 9) (v := .ref (b 1)) (C := RX9) (T := TX9) (N := 11) hx hb hts iG_X9 hown hK hP 0 rfl rfl 1 (by decide) (hts _ w_352) (fun _ h9 => h9) rfl dX9_joins_1 ?_
  refine lv_iload_n hx hb dX9_joins_4 rfl (lv_at hl 1 rfl) ?_
  obtain ⟨v1, ev1⟩ : ∃ y : Int64, p0.toInt64 = y := ⟨_, rfl⟩
  have tv1 : v1.toInt = p0.toInt := ti_wide rfl ev1
  refine lv_i2l (v := v1) hx hb dX9_joins_5 ev1 ?_
  refine k_i (wc := [(b 1, oX0 bc 0 0 0 0 0 0 0 0 0 0)]) (wr := [(h0, oX9 b)]) hP hD hS hA [1] [0] rfl rfl rfl (by decide) (va_runVN (As := [.long v1]) (rest := []) ⟨hx, hb, hml, hown, hts⟩ (f_X0_spotOf l G cI cJ cZ cB cQ _ (b 1) bc v1) ⟨va_cnB (host := "WidowRoads") 1 hts (gW w_656) rfl rfl rfl (nz_nw hZ nw_653 rfl) (hts _ w_4) hd_X0_spotOf ⟨Nat.le_of_ble_eq_true rfl, Nat.le_of_ble_eq_true rfl⟩, (hts _ w_655), (hts _ wp_34)⟩ (mV hK hZ hP hD [1] rfl rfl [.long v1] 1 0 rfl rfl) rfl rfl hl.1 rfl (lv_room (Nat.le_of_ble_eq_true rfl)) dX9_joins_6 ⟨Nat.le_of_ble_eq_true rfl, Nat.le_of_ble_eq_true rfl⟩) (fun r2 u3 H locs hw4 hP hD hS => ?_)
  try dsimp only at hw4
  have hP : va_P G vwCl [(h0, oX9 b), (b 1, oX0 bc 0 0 0 0 0 0 0 0 0 0)] H := hP
  have hD : va_D A [(h0, oX9 b), (b 1, oX0 bc 0 0 0 0 0 0 0 0 0 0)] := hD
  obtain rfl : r2 = (-1) := hw4
  refine lv_istore_n (lv' := [(3, .int (-1)), (0, .ref h0), (1, .int p0), (2, .int p1)]) hx hb dX9_joins_9 rfl hl (by decide) rfl (fun ls hl => ?_)
  refine lv_iload_n hx hb dX9_joins_10 rfl (lv_at hl 0 rfl) ?_
  refine lv_iconst (v := (-1)) hx hb dX9_joins_11 (by decide) ?_
  refine lv_icmp_eq (tgt := 26) hx hb dX9_joins_12 (by decide) (fun c5 => ?_) (fun c5 => absurd (by decide) c5)
  refine lv_bipush (v := (-2)) hx hb dX9_joins_26 (by decide) ?_
  exact hret _ _ _ _ (-2) () hP hD hS dX9_joins_28 rfl
set_option maxHeartbeats 4000000 in
set_option maxRecDepth 100000 in
theorem f_X9_corners (l : Launch) (G : va_G) (cI cJ cZ cB cQ : ClassId) (sz : Nat) (h0 : Nat) (b : Nat → Nat) (bc : Nat → Nat) (p0 : Int32) (p1 : Int32) : CI l yX9_corners (wl_ yX9_corners cX9_corners 3 (some .int)) ({ frames := 1, cells := 0, slots := 0, locals := 21 } : Room) G (TY cI cJ cZ cB cQ) [.ref h0, .int p0, .int p1] [(h0, oX9 b), (b 1, oX0 bc 0 0 0 0 0 0 0 0 0 0)] sz (fun (r : Int32) (u : Unit) => r = (-2)) (fun _ : Unit => [(h0, oX9 b), (b 1, oX0 bc 0 0 0 0 0 0 0 0 0 0)]) 0 0 := by
  refine CI.go (cc := cX9_corners) (maxL := 3) (ret := (some .int)) (by decide) rfl (Nat.le_of_ble_eq_true rfl) ?_
  intro p e s m below meth c A ls Q hBd hret
  obtain ⟨hx, hb, hr, hml, hts, hown, hlk, hnm, hP, hK, hD, hA, hZ, hl⟩ := hBd
  have hown : s.vm.findClass RX9 = some m.cls := hown
  have hl : lv_has ls 3 [(0, .ref h0), (1, .int p0), (2, .int p1)] := hl
  have hS : va_S A s.heap s.heap [] := va_S.rf
  refine lv_iload_n hx hb dX9_corners_0 rfl (lv_at hl 1 rfl) ?_
  refine lv_if_lt (tgt := 20) hx hb dX9_corners_1 (by decide) (fun c1 => ?_) (fun c1 => ?_)
  · have c1 := i_lt rfl ki_0 c1
    refine lv_bipush (v := (-2)) hx hb dX9_corners_20 (by decide) ?_
    exact hret _ _ _ _ (-2) () hP hD hS dX9_corners_22 rfl
  · have c1 := i_nlt rfl ki_0 c1
    refine lv_iload_n hx hb dX9_corners_4 rfl (lv_at hl 1 rfl) ?_
    refine lv_iconst (v := 4) hx hb dX9_corners_5 (by decide) ?_
    refine lv_icmp_gt (tgt := 20) hx hb dX9_corners_6 (by decide) (fun c2 => ?_) (fun c2 => ?_)
    · have c2 := i_lt ki_4 rfl c2
      refine lv_bipush (v := (-2)) hx hb dX9_corners_20 (by decide) ?_
      exact hret _ _ _ _ (-2) () hP hD hS dX9_corners_22 rfl
    · have c2 := i_nlt ki_4 rfl c2
      refine lv_aload_n hx hb dX9_corners_9 rfl (lv_at hl 0 rfl) ?_
      refine va_get (D := G) (ci := 9) (v := .ref (b 1)) (C := RX9) (T := TX9) (N := 11) hx hb hts iG_X9 hown hK hP 0 rfl rfl 1 (by decide) (hts _ w_352) (fun _ h9 => h9) rfl dX9_corners_10 ?_
      refine lv_iload_n hx hb dX9_corners_13 rfl (lv_at hl 2 rfl) ?_
      refine k_i (wc := [(b 1, oX0 bc 0 0 0 0 0 0 0 0 0 0)]) (wr := [(h0, oX9 b)]) hP hD hS hA [1] [0] rfl rfl rfl (by decide) (va_runVN (As := [.int p1]) (rest := []) ⟨hx, hb, hml, hown, hts⟩ (f_X0_hasYear l G cI cJ cZ cB cQ _ (b 1) bc p1) ⟨va_cnB (host := "WidowRoads") 1 hts (gW w_727) rfl rfl rfl (nz_nw hZ nw_724 rfl) (hts _ w_4) hd_X0_hasYear ⟨Nat.le_of_ble_eq_true rfl, Nat.le_of_ble_eq_true rfl⟩, (hts _ w_726), (hts _ wp_39)⟩ (mV hK hZ hP hD [1] rfl rfl [.int p1] 1 0 rfl rfl) rfl rfl hl.1 rfl (lv_room (Nat.le_of_ble_eq_true rfl)) dX9_corners_14 ⟨Nat.le_of_ble_eq_true rfl, Nat.le_of_ble_eq_true rfl⟩) (fun r3 u4 H locs hw5 hP hD hS => ?_)
      try dsimp only at hw5
      have hP : va_P G vwCl [(h0, oX9 b), (b 1, oX0 bc 0 0 0 0 0 0 0 0 0 0)] H := hP
      have hD : va_D A [(h0, oX9 b), (b 1, oX0 bc 0 0 0 0 0 0 0 0 0 0)] := hD
      obtain rfl : r3 = 0 := hw5
      refine lv_if_ne (tgt := 23) hx hb dX9_corners_17 (by decide) (fun c6 => absurd (by decide) c6) (fun c6 => ?_)
      refine lv_bipush (v := (-2)) hx hb dX9_corners_20 (by decide) ?_
      exact hret _ _ _ _ (-2) () hP hD hS dX9_corners_22 rfl
set_option maxHeartbeats 4000000 in
set_option maxRecDepth 100000 in
theorem f_X9_nets (l : Launch) (G : va_G) (cI cJ cZ cB cQ : ClassId) (sz : Nat) (h0 : Nat) (b : Nat → Nat) (bc : Nat → Nat) (p0 : Int32) : CI l yX9_nets (wl_ yX9_nets cX9_nets 2 (some .int)) ({ frames := 1, cells := 0, slots := 0, locals := 21 } : Room) G (TY cI cJ cZ cB cQ) [.ref h0, .int p0] [(h0, oX9 b), (b 1, oX0 bc 0 0 0 0 0 0 0 0 0 0)] sz (fun (r : Int32) (u : Unit) => r = (-2)) (fun _ : Unit => [(h0, oX9 b), (b 1, oX0 bc 0 0 0 0 0 0 0 0 0 0)]) 0 0 := by
  refine CI.go (cc := cX9_nets) (maxL := 2) (ret := (some .int)) (by decide) rfl (Nat.le_of_ble_eq_true rfl) ?_
  intro p e s m below meth c A ls Q hBd hret
  obtain ⟨hx, hb, hr, hml, hts, hown, hlk, hnm, hP, hK, hD, hA, hZ, hl⟩ := hBd
  have hown : s.vm.findClass RX9 = some m.cls := hown
  have hl : lv_has ls 2 [(0, .ref h0), (1, .int p0)] := hl
  have hS : va_S A s.heap s.heap [] := va_S.rf
  refine lv_aload_n hx hb dX9_nets_0 rfl (lv_at hl 0 rfl) ?_
  refine va_get (D := G) (ci := 9) (v := .ref (b 1)) (C := RX9) (T := TX9) (N := 11) hx hb hts iG_X9 hown hK hP 0 rfl rfl 1 (by decide) (hts _ w_352) (fun _ h9 => h9) rfl dX9_nets_1 ?_
  refine lv_iload_n hx hb dX9_nets_4 rfl (lv_at hl 1 rfl) ?_
  refine k_i (wc := [(b 1, oX0 bc 0 0 0 0 0 0 0 0 0 0)]) (wr := [(h0, oX9 b)]) hP hD hS hA [1] [0] rfl rfl rfl (by decide) (va_runVN (As := [.int p0]) (rest := []) ⟨hx, hb, hml, hown, hts⟩ (f_X0_hasYear l G cI cJ cZ cB cQ _ (b 1) bc p0) ⟨va_cnB (host := "WidowRoads") 1 hts (gW w_727) rfl rfl rfl (nz_nw hZ nw_724 rfl) (hts _ w_4) hd_X0_hasYear ⟨Nat.le_of_ble_eq_true rfl, Nat.le_of_ble_eq_true rfl⟩, (hts _ w_726), (hts _ wp_39)⟩ (mV hK hZ hP hD [1] rfl rfl [.int p0] 1 0 rfl rfl) rfl rfl hl.1 rfl (lv_room (Nat.le_of_ble_eq_true rfl)) dX9_nets_5 ⟨Nat.le_of_ble_eq_true rfl, Nat.le_of_ble_eq_true rfl⟩) (fun r1 u2 H locs hw3 hP hD hS => ?_)
  try dsimp only at hw3
  have hP : va_P G vwCl [(h0, oX9 b), (b 1, oX0 bc 0 0 0 0 0 0 0 0 0 0)] H := hP
  have hD : va_D A [(h0, oX9 b), (b 1, oX0 bc 0 0 0 0 0 0 0 0 0 0)] := hD
  obtain rfl : r1 = 0 := hw3
  refine lv_if_ne (tgt := 14) hx hb dX9_nets_8 (by decide) (fun c4 => absurd (by decide) c4) (fun c4 => ?_)
  refine lv_bipush (v := (-2)) hx hb dX9_nets_11 (by decide) ?_
  exact hret _ _ _ _ (-2) () hP hD hS dX9_nets_13 rfl
set_option maxHeartbeats 4000000 in
set_option maxRecDepth 100000 in
theorem f_X9_missing (l : Launch) (G : va_G) (cI cJ cZ cB cQ : ClassId) (sz : Nat) (h0 : Nat) (b : Nat → Nat) (bc : Nat → Nat) (p0 : Int32) : CI l yX9_missing (wl_ yX9_missing cX9_missing 3 (some .int)) ({ frames := 1, cells := 0, slots := 0, locals := 21 } : Room) G (TY cI cJ cZ cB cQ) [.ref h0, .int p0] [(h0, oX9 b), (b 1, oX0 bc 0 0 0 0 0 0 0 0 0 0)] sz (fun (r : Int32) (u : Unit) => r = (-2)) (fun _ : Unit => [(h0, oX9 b), (b 1, oX0 bc 0 0 0 0 0 0 0 0 0 0)]) 0 0 := by
  refine CI.go (cc := cX9_missing) (maxL := 3) (ret := (some .int)) (by decide) rfl (Nat.le_of_ble_eq_true rfl) ?_
  intro p e s m below meth c A ls Q hBd hret
  obtain ⟨hx, hb, hr, hml, hts, hown, hlk, hnm, hP, hK, hD, hA, hZ, hl⟩ := hBd
  have hown : s.vm.findClass RX9 = some m.cls := hown
  have hl : lv_has ls 3 [(0, .ref h0), (1, .int p0)] := hl
  have hS : va_S A s.heap s.heap [] := va_S.rf
  refine lv_aload_n hx hb dX9_missing_0 rfl (lv_at hl 0 rfl) ?_
  refine va_get (D := G) (ci := 9) (v := .ref (b 1)) (C := RX9) (T := TX9) (N := 11) hx hb hts iG_X9 hown hK hP 0 rfl rfl 1 (by decide) (hts _ w_352) (fun _ h9 => h9) rfl dX9_missing_1 ?_
  refine lv_iload_n hx hb dX9_missing_4 rfl (lv_at hl 1 rfl) ?_
  refine k_i (wc := [(b 1, oX0 bc 0 0 0 0 0 0 0 0 0 0)]) (wr := [(h0, oX9 b)]) hP hD hS hA [1] [0] rfl rfl rfl (by decide) (va_runVN (As := [.int p0]) (rest := []) ⟨hx, hb, hml, hown, hts⟩ (f_X0_hasYear l G cI cJ cZ cB cQ _ (b 1) bc p0) ⟨va_cnB (host := "WidowRoads") 1 hts (gW w_727) rfl rfl rfl (nz_nw hZ nw_724 rfl) (hts _ w_4) hd_X0_hasYear ⟨Nat.le_of_ble_eq_true rfl, Nat.le_of_ble_eq_true rfl⟩, (hts _ w_726), (hts _ wp_39)⟩ (mV hK hZ hP hD [1] rfl rfl [.int p0] 1 0 rfl rfl) rfl rfl hl.1 rfl (lv_room (Nat.le_of_ble_eq_true rfl)) dX9_missing_5 ⟨Nat.le_of_ble_eq_true rfl, Nat.le_of_ble_eq_true rfl⟩) (fun r1 u2 H locs hw3 hP hD hS => ?_)
  try dsimp only at hw3
  have hP : va_P G vwCl [(h0, oX9 b), (b 1, oX0 bc 0 0 0 0 0 0 0 0 0 0)] H := hP
  have hD : va_D A [(h0, oX9 b), (b 1, oX0 bc 0 0 0 0 0 0 0 0 0 0)] := hD
  obtain rfl : r1 = 0 := hw3
  refine lv_if_ne (tgt := 14) hx hb dX9_missing_8 (by decide) (fun c4 => absurd (by decide) c4) (fun c4 => ?_)
  refine lv_bipush (v := (-2)) hx hb dX9_missing_11 (by decide) ?_
  exact hret _ _ _ _ (-2) () hP hD hS dX9_missing_13 rfl
set_option maxHeartbeats 4000000 in
set_option maxRecDepth 100000 in
theorem f_X9_rings (l : Launch) (G : va_G) (cI cJ cZ cB cQ : ClassId) (sz : Nat) (h0 : Nat) (b : Nat → Nat) (bc : Nat → Nat) (p0 : Int32) : CI l yX9_rings (wl_ yX9_rings cX9_rings 2 (some .int)) ({ frames := 1, cells := 0, slots := 0, locals := 21 } : Room) G (TY cI cJ cZ cB cQ) [.ref h0, .int p0] [(h0, oX9 b), (b 1, oX0 bc 0 0 0 0 0 0 0 0 0 0)] sz (fun (r : Int32) (u : Unit) => r = (-2)) (fun _ : Unit => [(h0, oX9 b), (b 1, oX0 bc 0 0 0 0 0 0 0 0 0 0)]) 0 0 := by
  refine CI.go (cc := cX9_rings) (maxL := 2) (ret := (some .int)) (by decide) rfl (Nat.le_of_ble_eq_true rfl) ?_
  intro p e s m below meth c A ls Q hBd hret
  obtain ⟨hx, hb, hr, hml, hts, hown, hlk, hnm, hP, hK, hD, hA, hZ, hl⟩ := hBd
  have hown : s.vm.findClass RX9 = some m.cls := hown
  have hl : lv_has ls 2 [(0, .ref h0), (1, .int p0)] := hl
  have hS : va_S A s.heap s.heap [] := va_S.rf
  refine lv_aload_n hx hb dX9_rings_0 rfl (lv_at hl 0 rfl) ?_
  refine va_get (D := G) (ci := 9) (v := .ref (b 1)) (C := RX9) (T := TX9) (N := 11) hx hb hts iG_X9 hown hK hP 0 rfl rfl 1 (by decide) (hts _ w_352) (fun _ h9 => h9) rfl dX9_rings_1 ?_
  refine lv_iload_n hx hb dX9_rings_4 rfl (lv_at hl 1 rfl) ?_
  refine k_i (wc := [(b 1, oX0 bc 0 0 0 0 0 0 0 0 0 0)]) (wr := [(h0, oX9 b)]) hP hD hS hA [1] [0] rfl rfl rfl (by decide) (va_runVN (As := [.int p0]) (rest := []) ⟨hx, hb, hml, hown, hts⟩ (f_X0_hasYear l G cI cJ cZ cB cQ _ (b 1) bc p0) ⟨va_cnB (host := "WidowRoads") 1 hts (gW w_727) rfl rfl rfl (nz_nw hZ nw_724 rfl) (hts _ w_4) hd_X0_hasYear ⟨Nat.le_of_ble_eq_true rfl, Nat.le_of_ble_eq_true rfl⟩, (hts _ w_726), (hts _ wp_39)⟩ (mV hK hZ hP hD [1] rfl rfl [.int p0] 1 0 rfl rfl) rfl rfl hl.1 rfl (lv_room (Nat.le_of_ble_eq_true rfl)) dX9_rings_5 ⟨Nat.le_of_ble_eq_true rfl, Nat.le_of_ble_eq_true rfl⟩) (fun r1 u2 H locs hw3 hP hD hS => ?_)
  try dsimp only at hw3
  have hP : va_P G vwCl [(h0, oX9 b), (b 1, oX0 bc 0 0 0 0 0 0 0 0 0 0)] H := hP
  have hD : va_D A [(h0, oX9 b), (b 1, oX0 bc 0 0 0 0 0 0 0 0 0 0)] := hD
  obtain rfl : r1 = 0 := hw3
  refine lv_if_ne (tgt := 14) hx hb dX9_rings_8 (by decide) (fun c4 => absurd (by decide) c4) (fun c4 => ?_)
  refine lv_bipush (v := (-2)) hx hb dX9_rings_11 (by decide) ?_
  exact hret _ _ _ _ (-2) () hP hD hS dX9_rings_13 rfl
set_option maxHeartbeats 4000000 in
set_option maxRecDepth 100000 in
theorem f_X9_bridges (l : Launch) (G : va_G) (cI cJ cZ cB cQ : ClassId) (sz : Nat) (h0 : Nat) (b : Nat → Nat) (bc : Nat → Nat) (p0 : Int32) : CI l yX9_bridges (wl_ yX9_bridges cX9_bridges 2 (some .int)) ({ frames := 1, cells := 0, slots := 0, locals := 21 } : Room) G (TY cI cJ cZ cB cQ) [.ref h0, .int p0] [(h0, oX9 b), (b 1, oX0 bc 0 0 0 0 0 0 0 0 0 0)] sz (fun (r : Int32) (u : Unit) => r = (-2)) (fun _ : Unit => [(h0, oX9 b), (b 1, oX0 bc 0 0 0 0 0 0 0 0 0 0)]) 0 0 := by
  refine CI.go (cc := cX9_bridges) (maxL := 2) (ret := (some .int)) (by decide) rfl (Nat.le_of_ble_eq_true rfl) ?_
  intro p e s m below meth c A ls Q hBd hret
  obtain ⟨hx, hb, hr, hml, hts, hown, hlk, hnm, hP, hK, hD, hA, hZ, hl⟩ := hBd
  have hown : s.vm.findClass RX9 = some m.cls := hown
  have hl : lv_has ls 2 [(0, .ref h0), (1, .int p0)] := hl
  have hS : va_S A s.heap s.heap [] := va_S.rf
  refine lv_aload_n hx hb dX9_bridges_0 rfl (lv_at hl 0 rfl) ?_
  refine va_get (D := G) (ci := 9) (v := .ref (b 1)) (C := RX9) (T := TX9) (N := 11) hx hb hts iG_X9 hown hK hP 0 rfl rfl 1 (by decide) (hts _ w_352) (fun _ h9 => h9) rfl dX9_bridges_1 ?_
  refine lv_iload_n hx hb dX9_bridges_4 rfl (lv_at hl 1 rfl) ?_
  refine k_i (wc := [(b 1, oX0 bc 0 0 0 0 0 0 0 0 0 0)]) (wr := [(h0, oX9 b)]) hP hD hS hA [1] [0] rfl rfl rfl (by decide) (va_runVN (As := [.int p0]) (rest := []) ⟨hx, hb, hml, hown, hts⟩ (f_X0_hasYear l G cI cJ cZ cB cQ _ (b 1) bc p0) ⟨va_cnB (host := "WidowRoads") 1 hts (gW w_727) rfl rfl rfl (nz_nw hZ nw_724 rfl) (hts _ w_4) hd_X0_hasYear ⟨Nat.le_of_ble_eq_true rfl, Nat.le_of_ble_eq_true rfl⟩, (hts _ w_726), (hts _ wp_39)⟩ (mV hK hZ hP hD [1] rfl rfl [.int p0] 1 0 rfl rfl) rfl rfl hl.1 rfl (lv_room (Nat.le_of_ble_eq_true rfl)) dX9_bridges_5 ⟨Nat.le_of_ble_eq_true rfl, Nat.le_of_ble_eq_true rfl⟩) (fun r1 u2 H locs hw3 hP hD hS => ?_)
  try dsimp only at hw3
  have hP : va_P G vwCl [(h0, oX9 b), (b 1, oX0 bc 0 0 0 0 0 0 0 0 0 0)] H := hP
  have hD : va_D A [(h0, oX9 b), (b 1, oX0 bc 0 0 0 0 0 0 0 0 0 0)] := hD
  obtain rfl : r1 = 0 := hw3
  refine lv_if_ne (tgt := 14) hx hb dX9_bridges_8 (by decide) (fun c4 => absurd (by decide) c4) (fun c4 => ?_)
  refine lv_bipush (v := (-2)) hx hb dX9_bridges_11 (by decide) ?_
  exact hret _ _ _ _ (-2) () hP hD hS dX9_bridges_13 rfl
set_option maxHeartbeats 4000000 in
set_option maxRecDepth 100000 in
theorem f_X9_net (l : Launch) (G : va_G) (cI cJ cZ cB cQ : ClassId) (sz : Nat) (h0 : Nat) (b : Nat → Nat) (bc : Nat → Nat) (p0 : Int32) (p1 : Int32) : CI l yX9_net (wl_ yX9_net cX9_net 4 (some .int)) ({ frames := 1, cells := 0, slots := 0, locals := 22 } : Room) G (TY cI cJ cZ cB cQ) [.ref h0, .int p0, .int p1] [(h0, oX9 b), (b 1, oX0 bc 0 0 0 0 0 0 0 0 0 0)] sz (fun (r : Int32) (u : Unit) => r = (-2)) (fun _ : Unit => [(h0, oX9 b), (b 1, oX0 bc 0 0 0 0 0 0 0 0 0 0)]) 0 0 := by
  refine CI.go (cc := cX9_net) (maxL := 4) (ret := (some .int)) (by decide) rfl (Nat.le_of_ble_eq_true rfl) ?_
  intro p e s m below meth c A ls Q hBd hret
  obtain ⟨hx, hb, hr, hml, hts, hown, hlk, hnm, hP, hK, hD, hA, hZ, hl⟩ := hBd
  have hown : s.vm.findClass RX9 = some m.cls := hown
  have hl : lv_has ls 4 [(0, .ref h0), (1, .int p0), (2, .int p1)] := hl
  have hS : va_S A s.heap s.heap [] := va_S.rf
  refine lv_aload_n hx hb dX9_net_0 rfl (lv_at hl 0 rfl) ?_
  refine va_get (D := G) (ci := 9) (v := .ref (b 1)) (C := RX9) (T := TX9) (N := 11) hx hb hts iG_X9 hown hK hP 0 rfl rfl 1 (by decide) (hts _ w_352) (fun _ h9 => h9) rfl dX9_net_1 ?_
  refine lv_iload_n hx hb dX9_net_4 rfl (lv_at hl 1 rfl) ?_
  obtain ⟨v1, ev1⟩ : ∃ y : Int64, p0.toInt64 = y := ⟨_, rfl⟩
  have tv1 : v1.toInt = p0.toInt := ti_wide rfl ev1
  refine lv_i2l (v := v1) hx hb dX9_net_5 ev1 ?_
  refine k_i (wc := [(b 1, oX0 bc 0 0 0 0 0 0 0 0 0 0)]) (wr := [(h0, oX9 b)]) hP hD hS hA [1] [0] rfl rfl rfl (by decide) (va_runVN (As := [.long v1]) (rest := []) ⟨hx, hb, hml, hown, hts⟩ (f_X0_spotOf l G cI cJ cZ cB cQ _ (b 1) bc v1) ⟨va_cnB (host := "WidowRoads") 1 hts (gW w_656) rfl rfl rfl (nz_nw hZ nw_653 rfl) (hts _ w_4) hd_X0_spotOf ⟨Nat.le_of_ble_eq_true rfl, Nat.le_of_ble_eq_true rfl⟩, (hts _ w_655), (hts _ wp_34)⟩ (mV hK hZ hP hD [1] rfl rfl [.long v1] 1 0 rfl rfl) rfl rfl hl.1 rfl (lv_room (Nat.le_of_ble_eq_true rfl)) dX9_net_6 ⟨Nat.le_of_ble_eq_true rfl, Nat.le_of_ble_eq_true rfl⟩) (fun r2 u3 H locs hw4 hP hD hS => ?_)
  try dsimp only at hw4
  have hP : va_P G vwCl [(h0, oX9 b), (b 1, oX0 bc 0 0 0 0 0 0 0 0 0 0)] H := hP
  have hD : va_D A [(h0, oX9 b), (b 1, oX0 bc 0 0 0 0 0 0 0 0 0 0)] := hD
  obtain rfl : r2 = (-1) := hw4
  refine lv_istore_n (lv' := [(3, .int (-1)), (0, .ref h0), (1, .int p0), (2, .int p1)]) hx hb dX9_net_9 rfl hl (by decide) rfl (fun ls hl => ?_)
  refine lv_iload_n hx hb dX9_net_10 rfl (lv_at hl 0 rfl) ?_
  refine lv_iconst (v := (-1)) hx hb dX9_net_11 (by decide) ?_
  refine lv_icmp_eq (tgt := 26) hx hb dX9_net_12 (by decide) (fun c5 => ?_) (fun c5 => absurd (by decide) c5)
  refine lv_bipush (v := (-2)) hx hb dX9_net_26 (by decide) ?_
  exact hret _ _ _ _ (-2) () hP hD hS dX9_net_28 rfl
set_option maxHeartbeats 4000000 in
set_option maxRecDepth 100000 in
theorem f_X9_way (l : Launch) (G : va_G) (cI cJ cZ cB cQ : ClassId) (sz : Nat) (h0 : Nat) (b : Nat → Nat) (bc : Nat → Nat) (p0 : Int32) (p1 : Int32) (p2 : Int32) : CI l yX9_way (wl_ yX9_way cX9_way 6 (some .int)) ({ frames := 1, cells := 0, slots := 0, locals := 22 } : Room) G (TY cI cJ cZ cB cQ) [.ref h0, .int p0, .int p1, .int p2] [(h0, oX9 b), (b 1, oX0 bc 0 0 0 0 0 0 0 0 0 0)] sz (fun (r : Int32) (u : Unit) => r = (-2)) (fun _ : Unit => [(h0, oX9 b), (b 1, oX0 bc 0 0 0 0 0 0 0 0 0 0)]) 0 0 := by
  refine CI.go (cc := cX9_way) (maxL := 6) (ret := (some .int)) (by decide) rfl (Nat.le_of_ble_eq_true rfl) ?_
  intro p e s m below meth c A ls Q hBd hret
  obtain ⟨hx, hb, hr, hml, hts, hown, hlk, hnm, hP, hK, hD, hA, hZ, hl⟩ := hBd
  have hown : s.vm.findClass RX9 = some m.cls := hown
  have hl : lv_has ls 6 [(0, .ref h0), (1, .int p0), (2, .int p1), (3, .int p2)] := hl
  have hS : va_S A s.heap s.heap [] := va_S.rf
  refine lv_aload_n hx hb dX9_way_0 rfl (lv_at hl 0 rfl) ?_
  refine va_get (D := G) (ci := 9) (v := .ref (b 1)) (C := RX9) (T := TX9) (N := 11) hx hb hts iG_X9 hown hK hP 0 rfl rfl 1 (by decide) (hts _ w_352) (fun _ h9 => h9) rfl dX9_way_1 ?_
  refine lv_iload_n hx hb dX9_way_4 rfl (lv_at hl 1 rfl) ?_
  obtain ⟨v1, ev1⟩ : ∃ y : Int64, p0.toInt64 = y := ⟨_, rfl⟩
  have tv1 : v1.toInt = p0.toInt := ti_wide rfl ev1
  refine lv_i2l (v := v1) hx hb dX9_way_5 ev1 ?_
  refine k_i (wc := [(b 1, oX0 bc 0 0 0 0 0 0 0 0 0 0)]) (wr := [(h0, oX9 b)]) hP hD hS hA [1] [0] rfl rfl rfl (by decide) (va_runVN (As := [.long v1]) (rest := []) ⟨hx, hb, hml, hown, hts⟩ (f_X0_spotOf l G cI cJ cZ cB cQ _ (b 1) bc v1) ⟨va_cnB (host := "WidowRoads") 1 hts (gW w_656) rfl rfl rfl (nz_nw hZ nw_653 rfl) (hts _ w_4) hd_X0_spotOf ⟨Nat.le_of_ble_eq_true rfl, Nat.le_of_ble_eq_true rfl⟩, (hts _ w_655), (hts _ wp_34)⟩ (mV hK hZ hP hD [1] rfl rfl [.long v1] 1 0 rfl rfl) rfl rfl hl.1 rfl (lv_room (Nat.le_of_ble_eq_true rfl)) dX9_way_6 ⟨Nat.le_of_ble_eq_true rfl, Nat.le_of_ble_eq_true rfl⟩) (fun r2 u3 H locs hw4 hP hD hS => ?_)
  try dsimp only at hw4
  have hP : va_P G vwCl [(h0, oX9 b), (b 1, oX0 bc 0 0 0 0 0 0 0 0 0 0)] H := hP
  have hD : va_D A [(h0, oX9 b), (b 1, oX0 bc 0 0 0 0 0 0 0 0 0 0)] := hD
  obtain rfl : r2 = (-1) := hw4
  refine lv_istore (lv' := [(4, .int (-1)), (0, .ref h0), (1, .int p0), (2, .int p1), (3, .int p2)]) hx hb dX9_way_9 hl (by decide) rfl (fun ls hl => ?_)
  refine lv_aload_n hx hb dX9_way_11 rfl (lv_at hl 1 rfl) ?_
  refine va_get (D := G) (ci := 9) (v := .ref (b 1)) (C := RX9) (T := TX9) (N := 11) hx hb hts iG_X9 hown hK hP 0 rfl rfl 1 (by decide) (hts _ w_352) (fun _ h9 => h9) rfl dX9_way_12 ?_
  refine lv_iload_n hx hb dX9_way_15 rfl (lv_at hl 3 rfl) ?_
  obtain ⟨v5, ev5⟩ : ∃ y : Int64, p1.toInt64 = y := ⟨_, rfl⟩
  have tv5 : v5.toInt = p1.toInt := ti_wide rfl ev5
  refine lv_i2l (v := v5) hx hb dX9_way_16 ev5 ?_
  refine k_i (wc := [(b 1, oX0 bc 0 0 0 0 0 0 0 0 0 0)]) (wr := [(h0, oX9 b)]) hP hD hS hA [1] [0] rfl rfl rfl (by decide) (va_runVN (As := [.long v5]) (rest := []) ⟨hx, hb, hml, hown, hts⟩ (f_X0_spotOf l G cI cJ cZ cB cQ _ (b 1) bc v5) ⟨va_cnB (host := "WidowRoads") 1 hts (gW w_656) rfl rfl rfl (nz_nw hZ nw_653 rfl) (hts _ w_4) hd_X0_spotOf ⟨Nat.le_of_ble_eq_true rfl, Nat.le_of_ble_eq_true rfl⟩, (hts _ w_655), (hts _ wp_34)⟩ (mV hK hZ hP hD [1] rfl rfl [.long v5] 1 0 rfl rfl) rfl rfl hl.1 rfl (lv_room (Nat.le_of_ble_eq_true rfl)) dX9_way_17 ⟨Nat.le_of_ble_eq_true rfl, Nat.le_of_ble_eq_true rfl⟩) (fun r6 u7 H locs hw8 hP hD hS => ?_)
  try dsimp only at hw8
  have hP : va_P G vwCl [(h0, oX9 b), (b 1, oX0 bc 0 0 0 0 0 0 0 0 0 0)] H := hP
  have hD : va_D A [(h0, oX9 b), (b 1, oX0 bc 0 0 0 0 0 0 0 0 0 0)] := hD
  obtain rfl : r6 = (-1) := hw8
  refine lv_istore (lv' := [(5, .int (-1)), (4, .int (-1)), (0, .ref h0), (1, .int p0), (2, .int p1), (3, .int p2)]) hx hb dX9_way_20 hl (by decide) rfl (fun ls hl => ?_)
  refine lv_iload hx hb dX9_way_22 (lv_at hl 1 rfl) ?_
  refine lv_iconst (v := (-1)) hx hb dX9_way_24 (by decide) ?_
  refine lv_icmp_eq (tgt := 45) hx hb dX9_way_25 (by decide) (fun c9 => ?_) (fun c9 => absurd (by decide) c9)
  refine lv_bipush (v := (-2)) hx hb dX9_way_45 (by decide) ?_
  exact hret _ _ _ _ (-2) () hP hD hS dX9_way_47 rfl
set_option maxHeartbeats 4000000 in
set_option maxRecDepth 100000 in
theorem f_X9_beeline (l : Launch) (G : va_G) (cI cJ cZ cB cQ : ClassId) (sz : Nat) (h0 : Nat) (b : Nat → Nat) (bc : Nat → Nat) (p0 : Int32) (p1 : Int32) : CI l yX9_beeline (wl_ yX9_beeline cX9_beeline 5 (some .int)) ({ frames := 1, cells := 0, slots := 0, locals := 22 } : Room) G (TY cI cJ cZ cB cQ) [.ref h0, .int p0, .int p1] [(h0, oX9 b), (b 1, oX0 bc 0 0 0 0 0 0 0 0 0 0)] sz (fun (r : Int32) (u : Unit) => r = (-2)) (fun _ : Unit => [(h0, oX9 b), (b 1, oX0 bc 0 0 0 0 0 0 0 0 0 0)]) 0 0 := by
  refine CI.go (cc := cX9_beeline) (maxL := 5) (ret := (some .int)) (by decide) rfl (Nat.le_of_ble_eq_true rfl) ?_
  intro p e s m below meth c A ls Q hBd hret
  obtain ⟨hx, hb, hr, hml, hts, hown, hlk, hnm, hP, hK, hD, hA, hZ, hl⟩ := hBd
  have hown : s.vm.findClass RX9 = some m.cls := hown
  have hl : lv_has ls 5 [(0, .ref h0), (1, .int p0), (2, .int p1)] := hl
  have hS : va_S A s.heap s.heap [] := va_S.rf
  refine lv_aload_n hx hb dX9_beeline_0 rfl (lv_at hl 0 rfl) ?_
  refine va_get (D := G) (ci := 9) (v := .ref (b 1)) (C := RX9) (T := TX9) (N := 11) hx hb hts iG_X9 hown hK hP 0 rfl rfl 1 (by decide) (hts _ w_352) (fun _ h9 => h9) rfl dX9_beeline_1 ?_
  refine lv_iload_n hx hb dX9_beeline_4 rfl (lv_at hl 1 rfl) ?_
  obtain ⟨v1, ev1⟩ : ∃ y : Int64, p0.toInt64 = y := ⟨_, rfl⟩
  have tv1 : v1.toInt = p0.toInt := ti_wide rfl ev1
  refine lv_i2l (v := v1) hx hb dX9_beeline_5 ev1 ?_
  refine k_i (wc := [(b 1, oX0 bc 0 0 0 0 0 0 0 0 0 0)]) (wr := [(h0, oX9 b)]) hP hD hS hA [1] [0] rfl rfl rfl (by decide) (va_runVN (As := [.long v1]) (rest := []) ⟨hx, hb, hml, hown, hts⟩ (f_X0_spotOf l G cI cJ cZ cB cQ _ (b 1) bc v1) ⟨va_cnB (host := "WidowRoads") 1 hts (gW w_656) rfl rfl rfl (nz_nw hZ nw_653 rfl) (hts _ w_4) hd_X0_spotOf ⟨Nat.le_of_ble_eq_true rfl, Nat.le_of_ble_eq_true rfl⟩, (hts _ w_655), (hts _ wp_34)⟩ (mV hK hZ hP hD [1] rfl rfl [.long v1] 1 0 rfl rfl) rfl rfl hl.1 rfl (lv_room (Nat.le_of_ble_eq_true rfl)) dX9_beeline_6 ⟨Nat.le_of_ble_eq_true rfl, Nat.le_of_ble_eq_true rfl⟩) (fun r2 u3 H locs hw4 hP hD hS => ?_)
  try dsimp only at hw4
  have hP : va_P G vwCl [(h0, oX9 b), (b 1, oX0 bc 0 0 0 0 0 0 0 0 0 0)] H := hP
  have hD : va_D A [(h0, oX9 b), (b 1, oX0 bc 0 0 0 0 0 0 0 0 0 0)] := hD
  obtain rfl : r2 = (-1) := hw4
  refine lv_istore_n (lv' := [(3, .int (-1)), (0, .ref h0), (1, .int p0), (2, .int p1)]) hx hb dX9_beeline_9 rfl hl (by decide) rfl (fun ls hl => ?_)
  refine lv_aload_n hx hb dX9_beeline_10 rfl (lv_at hl 1 rfl) ?_
  refine va_get (D := G) (ci := 9) (v := .ref (b 1)) (C := RX9) (T := TX9) (N := 11) hx hb hts iG_X9 hown hK hP 0 rfl rfl 1 (by decide) (hts _ w_352) (fun _ h9 => h9) rfl dX9_beeline_11 ?_
  refine lv_iload_n hx hb dX9_beeline_14 rfl (lv_at hl 3 rfl) ?_
  obtain ⟨v5, ev5⟩ : ∃ y : Int64, p1.toInt64 = y := ⟨_, rfl⟩
  have tv5 : v5.toInt = p1.toInt := ti_wide rfl ev5
  refine lv_i2l (v := v5) hx hb dX9_beeline_15 ev5 ?_
  refine k_i (wc := [(b 1, oX0 bc 0 0 0 0 0 0 0 0 0 0)]) (wr := [(h0, oX9 b)]) hP hD hS hA [1] [0] rfl rfl rfl (by decide) (va_runVN (As := [.long v5]) (rest := []) ⟨hx, hb, hml, hown, hts⟩ (f_X0_spotOf l G cI cJ cZ cB cQ _ (b 1) bc v5) ⟨va_cnB (host := "WidowRoads") 1 hts (gW w_656) rfl rfl rfl (nz_nw hZ nw_653 rfl) (hts _ w_4) hd_X0_spotOf ⟨Nat.le_of_ble_eq_true rfl, Nat.le_of_ble_eq_true rfl⟩, (hts _ w_655), (hts _ wp_34)⟩ (mV hK hZ hP hD [1] rfl rfl [.long v5] 1 0 rfl rfl) rfl rfl hl.1 rfl (lv_room (Nat.le_of_ble_eq_true rfl)) dX9_beeline_16 ⟨Nat.le_of_ble_eq_true rfl, Nat.le_of_ble_eq_true rfl⟩) (fun r6 u7 H locs hw8 hP hD hS => ?_)
  try dsimp only at hw8
  have hP : va_P G vwCl [(h0, oX9 b), (b 1, oX0 bc 0 0 0 0 0 0 0 0 0 0)] H := hP
  have hD : va_D A [(h0, oX9 b), (b 1, oX0 bc 0 0 0 0 0 0 0 0 0 0)] := hD
  obtain rfl : r6 = (-1) := hw8
  refine lv_istore (lv' := [(4, .int (-1)), (3, .int (-1)), (0, .ref h0), (1, .int p0), (2, .int p1)]) hx hb dX9_beeline_19 hl (by decide) rfl (fun ls hl => ?_)
  refine lv_iload_n hx hb dX9_beeline_21 rfl (lv_at hl 1 rfl) ?_
  refine lv_iconst (v := (-1)) hx hb dX9_beeline_22 (by decide) ?_
  refine lv_icmp_eq (tgt := 32) hx hb dX9_beeline_23 (by decide) (fun c9 => ?_) (fun c9 => absurd (by decide) c9)
  refine lv_bipush (v := (-2)) hx hb dX9_beeline_32 (by decide) ?_
  exact hret _ _ _ _ (-2) () hP hD hS dX9_beeline_34 rfl
set_option maxHeartbeats 4000000 in
set_option maxRecDepth 100000 in
theorem f_X9_farthest (l : Launch) (G : va_G) (cI cJ cZ cB cQ : ClassId) (sz : Nat) (h0 : Nat) (b : Nat → Nat) (bc : Nat → Nat) (p0 : Int32) (p1 : Int32) : CI l yX9_farthest (wl_ yX9_farthest cX9_farthest 4 (some .int)) ({ frames := 1, cells := 0, slots := 0, locals := 22 } : Room) G (TY cI cJ cZ cB cQ) [.ref h0, .int p0, .int p1] [(h0, oX9 b), (b 1, oX0 bc 0 0 0 0 0 0 0 0 0 0)] sz (fun (r : Int32) (u : Unit) => r = (-2)) (fun _ : Unit => [(h0, oX9 b), (b 1, oX0 bc 0 0 0 0 0 0 0 0 0 0)]) 0 0 := by
  refine CI.go (cc := cX9_farthest) (maxL := 4) (ret := (some .int)) (by decide) rfl (Nat.le_of_ble_eq_true rfl) ?_
  intro p e s m below meth c A ls Q hBd hret
  obtain ⟨hx, hb, hr, hml, hts, hown, hlk, hnm, hP, hK, hD, hA, hZ, hl⟩ := hBd
  have hown : s.vm.findClass RX9 = some m.cls := hown
  have hl : lv_has ls 4 [(0, .ref h0), (1, .int p0), (2, .int p1)] := hl
  have hS : va_S A s.heap s.heap [] := va_S.rf
  refine lv_aload_n hx hb dX9_farthest_0 rfl (lv_at hl 0 rfl) ?_
  refine va_get (D := G) (ci := 9) (v := .ref (b 1)) (C := RX9) (T := TX9) (N := 11) hx hb hts iG_X9 hown hK hP 0 rfl rfl 1 (by decide) (hts _ w_352) (fun _ h9 => h9) rfl dX9_farthest_1 ?_
  refine lv_iload_n hx hb dX9_farthest_4 rfl (lv_at hl 1 rfl) ?_
  obtain ⟨v1, ev1⟩ : ∃ y : Int64, p0.toInt64 = y := ⟨_, rfl⟩
  have tv1 : v1.toInt = p0.toInt := ti_wide rfl ev1
  refine lv_i2l (v := v1) hx hb dX9_farthest_5 ev1 ?_
  refine k_i (wc := [(b 1, oX0 bc 0 0 0 0 0 0 0 0 0 0)]) (wr := [(h0, oX9 b)]) hP hD hS hA [1] [0] rfl rfl rfl (by decide) (va_runVN (As := [.long v1]) (rest := []) ⟨hx, hb, hml, hown, hts⟩ (f_X0_spotOf l G cI cJ cZ cB cQ _ (b 1) bc v1) ⟨va_cnB (host := "WidowRoads") 1 hts (gW w_656) rfl rfl rfl (nz_nw hZ nw_653 rfl) (hts _ w_4) hd_X0_spotOf ⟨Nat.le_of_ble_eq_true rfl, Nat.le_of_ble_eq_true rfl⟩, (hts _ w_655), (hts _ wp_34)⟩ (mV hK hZ hP hD [1] rfl rfl [.long v1] 1 0 rfl rfl) rfl rfl hl.1 rfl (lv_room (Nat.le_of_ble_eq_true rfl)) dX9_farthest_6 ⟨Nat.le_of_ble_eq_true rfl, Nat.le_of_ble_eq_true rfl⟩) (fun r2 u3 H locs hw4 hP hD hS => ?_)
  try dsimp only at hw4
  have hP : va_P G vwCl [(h0, oX9 b), (b 1, oX0 bc 0 0 0 0 0 0 0 0 0 0)] H := hP
  have hD : va_D A [(h0, oX9 b), (b 1, oX0 bc 0 0 0 0 0 0 0 0 0 0)] := hD
  obtain rfl : r2 = (-1) := hw4
  refine lv_istore_n (lv' := [(3, .int (-1)), (0, .ref h0), (1, .int p0), (2, .int p1)]) hx hb dX9_farthest_9 rfl hl (by decide) rfl (fun ls hl => ?_)
  refine lv_iload_n hx hb dX9_farthest_10 rfl (lv_at hl 0 rfl) ?_
  refine lv_iconst (v := (-1)) hx hb dX9_farthest_11 (by decide) ?_
  refine lv_icmp_eq (tgt := 26) hx hb dX9_farthest_12 (by decide) (fun c5 => ?_) (fun c5 => absurd (by decide) c5)
  refine lv_bipush (v := (-2)) hx hb dX9_farthest_26 (by decide) ?_
  exact hret _ _ _ _ (-2) () hP hD hS dX9_farthest_28 rfl
set_option maxHeartbeats 4000000 in
set_option maxRecDepth 100000 in
theorem f_X9_crossing (l : Launch) (G : va_G) (cI cJ cZ cB cQ : ClassId) (sz : Nat) (h0 : Nat) (b : Nat → Nat) (bc : Nat → Nat) : CI l yX9_crossing (wl_ yX9_crossing cX9_crossing 5 (some .int)) ({ frames := 0, cells := 0, slots := 0, locals := 0 } : Room) G (TY cI cJ cZ cB cQ) [.ref h0] [(h0, oX9 b), (b 1, oX0 bc 0 0 0 0 0 0 0 0 0 0)] sz (fun (r : Int32) (u : Unit) => r = (-2)) (fun _ : Unit => [(h0, oX9 b), (b 1, oX0 bc 0 0 0 0 0 0 0 0 0 0)]) 0 0 := by
  refine CI.go (cc := cX9_crossing) (maxL := 5) (ret := (some .int)) (by decide) rfl (Nat.le_of_ble_eq_true rfl) ?_
  intro p e s m below meth c A ls Q hBd hret
  obtain ⟨hx, hb, hr, hml, hts, hown, hlk, hnm, hP, hK, hD, hA, hZ, hl⟩ := hBd
  have hown : s.vm.findClass RX9 = some m.cls := hown
  have hl : lv_has ls 5 [(0, .ref h0)] := hl
  have hS : va_S A s.heap s.heap [] := va_S.rf
  refine lv_aload_n hx hb dX9_crossing_0 rfl (lv_at hl 0 rfl) ?_
  refine va_get (D := G) (ci := 9) (v := .ref (b 1)) (C := RX9) (T := TX9) (N := 11) hx hb hts iG_X9 hown hK hP 0 rfl rfl 1 (by decide) (hts _ w_352) (fun _ h9 => h9) rfl dX9_crossing_1 ?_
  refine va_getN (D := G) (ci := 0) (v := .int 0) (C := RX0) (T := TX0) (N := 19) hx hb hts iG_X0 hown hK hP 1 rfl rfl 0 (by decide) (nz_use hZ nw_57 rfl) (fun _ h9 => h9) rfl dX9_crossing_4 ?_
  refine lv_if_ne (tgt := 13) hx hb dX9_crossing_7 (by decide) (fun c1 => absurd (by decide) c1) (fun c1 => ?_)
  refine lv_bipush (v := (-2)) hx hb dX9_crossing_10 (by decide) ?_
  exact hret _ _ _ _ (-2) () hP hD hS dX9_crossing_12 rfl
set_option maxHeartbeats 4000000 in
set_option maxRecDepth 100000 in
theorem f_X9_shared (l : Launch) (G : va_G) (cI cJ cZ cB cQ : ClassId) (sz : Nat) (h0 : Nat) (b : Nat → Nat) (bc : Nat → Nat) (p0 : Int32) (p1 : Int32) : CI l yX9_shared (wl_ yX9_shared cX9_shared 3 (some .int)) ({ frames := 1, cells := 0, slots := 0, locals := 22 } : Room) G (TY cI cJ cZ cB cQ) [.ref h0, .int p0, .int p1] [(h0, oX9 b), (b 1, oX0 bc 0 0 0 0 0 0 0 0 0 0)] sz (fun (r : Int32) (u : Unit) => r = (-2)) (fun _ : Unit => [(h0, oX9 b), (b 1, oX0 bc 0 0 0 0 0 0 0 0 0 0)]) 0 0 := by
  refine CI.go (cc := cX9_shared) (maxL := 3) (ret := (some .int)) (by decide) rfl (Nat.le_of_ble_eq_true rfl) ?_
  intro p e s m below meth c A ls Q hBd hret
  obtain ⟨hx, hb, hr, hml, hts, hown, hlk, hnm, hP, hK, hD, hA, hZ, hl⟩ := hBd
  have hown : s.vm.findClass RX9 = some m.cls := hown
  have hl : lv_has ls 3 [(0, .ref h0), (1, .int p0), (2, .int p1)] := hl
  have hS : va_S A s.heap s.heap [] := va_S.rf
  refine lv_aload_n hx hb dX9_shared_0 rfl (lv_at hl 0 rfl) ?_
  refine va_get (D := G) (ci := 9) (v := .ref (b 1)) (C := RX9) (T := TX9) (N := 11) hx hb hts iG_X9 hown hK hP 0 rfl rfl 1 (by decide) (hts _ w_352) (fun _ h9 => h9) rfl dX9_shared_1 ?_
  refine lv_iload_n hx hb dX9_shared_4 rfl (lv_at hl 1 rfl) ?_
  obtain ⟨v1, ev1⟩ : ∃ y : Int64, p0.toInt64 = y := ⟨_, rfl⟩
  have tv1 : v1.toInt = p0.toInt := ti_wide rfl ev1
  refine lv_i2l (v := v1) hx hb dX9_shared_5 ev1 ?_
  refine k_i (wc := [(b 1, oX0 bc 0 0 0 0 0 0 0 0 0 0)]) (wr := [(h0, oX9 b)]) hP hD hS hA [1] [0] rfl rfl rfl (by decide) (va_runVN (As := [.long v1]) (rest := []) ⟨hx, hb, hml, hown, hts⟩ (f_X0_hasWidow l G cI cJ cZ cB cQ _ (b 1) bc v1) ⟨va_cnB (host := "WidowRoads") 1 hts (gW w_671) rfl rfl rfl (nz_nw hZ nw_668 rfl) (hts _ w_4) hd_X0_hasWidow ⟨Nat.le_of_ble_eq_true rfl, Nat.le_of_ble_eq_true rfl⟩, (hts _ w_670), (hts _ wp_35)⟩ (mV hK hZ hP hD [1] rfl rfl [.long v1] 1 0 rfl rfl) rfl rfl hl.1 rfl (lv_room (Nat.le_of_ble_eq_true rfl)) dX9_shared_6 ⟨Nat.le_of_ble_eq_true rfl, Nat.le_of_ble_eq_true rfl⟩) (fun r2 u3 H locs hw4 hP hD hS => ?_)
  try dsimp only at hw4
  have hP : va_P G vwCl [(h0, oX9 b), (b 1, oX0 bc 0 0 0 0 0 0 0 0 0 0)] H := hP
  have hD : va_D A [(h0, oX9 b), (b 1, oX0 bc 0 0 0 0 0 0 0 0 0 0)] := hD
  obtain rfl : r2 = 0 := hw4
  refine lv_if_eq (tgt := 24) hx hb dX9_shared_9 (by decide) (fun c5 => ?_) (fun c5 => absurd (by decide) c5)
  refine lv_bipush (v := (-2)) hx hb dX9_shared_24 (by decide) ?_
  exact hret _ _ _ _ (-2) () hP hD hS dX9_shared_26 rfl
set_option maxHeartbeats 4000000 in
set_option maxRecDepth 100000 in
theorem f_X9_walked (l : Launch) (G : va_G) (cI cJ cZ cB cQ : ClassId) (sz : Nat) (h0 : Nat) (b : Nat → Nat) (bc : Nat → Nat) (p0 : Int32) : CI l yX9_walked (wl_ yX9_walked cX9_walked 3 (some .int)) ({ frames := 1, cells := 0, slots := 0, locals := 22 } : Room) G (TY cI cJ cZ cB cQ) [.ref h0, .int p0] [(h0, oX9 b), (b 1, oX0 bc 0 0 0 0 0 0 0 0 0 0)] sz (fun (r : Int32) (u : Unit) => r = (-2)) (fun _ : Unit => [(h0, oX9 b), (b 1, oX0 bc 0 0 0 0 0 0 0 0 0 0)]) 0 0 := by
  refine CI.go (cc := cX9_walked) (maxL := 3) (ret := (some .int)) (by decide) rfl (Nat.le_of_ble_eq_true rfl) ?_
  intro p e s m below meth c A ls Q hBd hret
  obtain ⟨hx, hb, hr, hml, hts, hown, hlk, hnm, hP, hK, hD, hA, hZ, hl⟩ := hBd
  have hown : s.vm.findClass RX9 = some m.cls := hown
  have hl : lv_has ls 3 [(0, .ref h0), (1, .int p0)] := hl
  have hS : va_S A s.heap s.heap [] := va_S.rf
  refine lv_aload_n hx hb dX9_walked_0 rfl (lv_at hl 0 rfl) ?_
  refine va_get (D := G) (ci := 9) (v := .ref (b 1)) (C := RX9) (T := TX9) (N := 11) hx hb hts iG_X9 hown hK hP 0 rfl rfl 1 (by decide) (hts _ w_352) (fun _ h9 => h9) rfl dX9_walked_1 ?_
  refine lv_iload_n hx hb dX9_walked_4 rfl (lv_at hl 1 rfl) ?_
  obtain ⟨v1, ev1⟩ : ∃ y : Int64, p0.toInt64 = y := ⟨_, rfl⟩
  have tv1 : v1.toInt = p0.toInt := ti_wide rfl ev1
  refine lv_i2l (v := v1) hx hb dX9_walked_5 ev1 ?_
  refine k_i (wc := [(b 1, oX0 bc 0 0 0 0 0 0 0 0 0 0)]) (wr := [(h0, oX9 b)]) hP hD hS hA [1] [0] rfl rfl rfl (by decide) (va_runVN (As := [.long v1]) (rest := []) ⟨hx, hb, hml, hown, hts⟩ (f_X0_spotOf l G cI cJ cZ cB cQ _ (b 1) bc v1) ⟨va_cnB (host := "WidowRoads") 1 hts (gW w_656) rfl rfl rfl (nz_nw hZ nw_653 rfl) (hts _ w_4) hd_X0_spotOf ⟨Nat.le_of_ble_eq_true rfl, Nat.le_of_ble_eq_true rfl⟩, (hts _ w_655), (hts _ wp_34)⟩ (mV hK hZ hP hD [1] rfl rfl [.long v1] 1 0 rfl rfl) rfl rfl hl.1 rfl (lv_room (Nat.le_of_ble_eq_true rfl)) dX9_walked_6 ⟨Nat.le_of_ble_eq_true rfl, Nat.le_of_ble_eq_true rfl⟩) (fun r2 u3 H locs hw4 hP hD hS => ?_)
  try dsimp only at hw4
  have hP : va_P G vwCl [(h0, oX9 b), (b 1, oX0 bc 0 0 0 0 0 0 0 0 0 0)] H := hP
  have hD : va_D A [(h0, oX9 b), (b 1, oX0 bc 0 0 0 0 0 0 0 0 0 0)] := hD
  obtain rfl : r2 = (-1) := hw4
  refine lv_istore_n (lv' := [(2, .int (-1)), (0, .ref h0), (1, .int p0)]) hx hb dX9_walked_9 rfl hl (by decide) rfl (fun ls hl => ?_)
  refine lv_iload_n hx hb dX9_walked_10 rfl (lv_at hl 0 rfl) ?_
  refine lv_iconst (v := (-1)) hx hb dX9_walked_11 (by decide) ?_
  refine lv_icmp_ne (tgt := 20) hx hb dX9_walked_12 (by decide) (fun c5 => absurd (by decide) c5) (fun c5 => ?_)
  refine lv_bipush (v := (-2)) hx hb dX9_walked_15 (by decide) ?_
  refine lv_goto (tgt := 25) hx hb dX9_walked_17 (by decide) ?_
  exact hret _ _ _ _ (-2) () hP hD hS dX9_walked_25 rfl
set_option maxHeartbeats 4000000 in
set_option maxRecDepth 100000 in
theorem f_X9_first (l : Launch) (G : va_G) (cI cJ cZ cB cQ : ClassId) (sz : Nat) (h0 : Nat) (b : Nat → Nat) (bc : Nat → Nat) (p0 : Int32) : CI l yX9_first (wl_ yX9_first cX9_first 4 (some .int)) ({ frames := 1, cells := 0, slots := 0, locals := 22 } : Room) G (TY cI cJ cZ cB cQ) [.ref h0, .int p0] [(h0, oX9 b), (b 1, oX0 bc 0 0 0 0 0 0 0 0 0 0)] sz (fun (r : Int32) (u : Unit) => r = (-2)) (fun _ : Unit => [(h0, oX9 b), (b 1, oX0 bc 0 0 0 0 0 0 0 0 0 0)]) 0 0 := by
  refine CI.go (cc := cX9_first) (maxL := 4) (ret := (some .int)) (by decide) rfl (Nat.le_of_ble_eq_true rfl) ?_
  intro p e s m below meth c A ls Q hBd hret
  obtain ⟨hx, hb, hr, hml, hts, hown, hlk, hnm, hP, hK, hD, hA, hZ, hl⟩ := hBd
  have hown : s.vm.findClass RX9 = some m.cls := hown
  have hl : lv_has ls 4 [(0, .ref h0), (1, .int p0)] := hl
  have hS : va_S A s.heap s.heap [] := va_S.rf
  refine lv_aload_n hx hb dX9_first_0 rfl (lv_at hl 0 rfl) ?_
  refine va_get (D := G) (ci := 9) (v := .ref (b 1)) (C := RX9) (T := TX9) (N := 11) hx hb hts iG_X9 hown hK hP 0 rfl rfl 1 (by decide) (hts _ w_352) (fun _ h9 => h9) rfl dX9_first_1 ?_
  refine lv_iload_n hx hb dX9_first_4 rfl (lv_at hl 1 rfl) ?_
  obtain ⟨v1, ev1⟩ : ∃ y : Int64, p0.toInt64 = y := ⟨_, rfl⟩
  have tv1 : v1.toInt = p0.toInt := ti_wide rfl ev1
  refine lv_i2l (v := v1) hx hb dX9_first_5 ev1 ?_
  refine k_i (wc := [(b 1, oX0 bc 0 0 0 0 0 0 0 0 0 0)]) (wr := [(h0, oX9 b)]) hP hD hS hA [1] [0] rfl rfl rfl (by decide) (va_runVN (As := [.long v1]) (rest := []) ⟨hx, hb, hml, hown, hts⟩ (f_X0_spotOf l G cI cJ cZ cB cQ _ (b 1) bc v1) ⟨va_cnB (host := "WidowRoads") 1 hts (gW w_656) rfl rfl rfl (nz_nw hZ nw_653 rfl) (hts _ w_4) hd_X0_spotOf ⟨Nat.le_of_ble_eq_true rfl, Nat.le_of_ble_eq_true rfl⟩, (hts _ w_655), (hts _ wp_34)⟩ (mV hK hZ hP hD [1] rfl rfl [.long v1] 1 0 rfl rfl) rfl rfl hl.1 rfl (lv_room (Nat.le_of_ble_eq_true rfl)) dX9_first_6 ⟨Nat.le_of_ble_eq_true rfl, Nat.le_of_ble_eq_true rfl⟩) (fun r2 u3 H locs hw4 hP hD hS => ?_)
  try dsimp only at hw4
  have hP : va_P G vwCl [(h0, oX9 b), (b 1, oX0 bc 0 0 0 0 0 0 0 0 0 0)] H := hP
  have hD : va_D A [(h0, oX9 b), (b 1, oX0 bc 0 0 0 0 0 0 0 0 0 0)] := hD
  obtain rfl : r2 = (-1) := hw4
  refine lv_istore_n (lv' := [(2, .int (-1)), (0, .ref h0), (1, .int p0)]) hx hb dX9_first_9 rfl hl (by decide) rfl (fun ls hl => ?_)
  refine lv_iload_n hx hb dX9_first_10 rfl (lv_at hl 0 rfl) ?_
  refine lv_iconst (v := (-1)) hx hb dX9_first_11 (by decide) ?_
  refine lv_icmp_ne (tgt := 18) hx hb dX9_first_12 (by decide) (fun c5 => absurd (by decide) c5) (fun c5 => ?_)
  refine lv_bipush (v := (-2)) hx hb dX9_first_15 (by decide) ?_
  exact hret _ _ _ _ (-2) () hP hD hS dX9_first_17 rfl
set_option maxHeartbeats 4000000 in
set_option maxRecDepth 100000 in
theorem f_X9_line (l : Launch) (G : va_G) (cI cJ cZ cB cQ : ClassId) (sz : Nat) (h0 : Nat) (b : Nat → Nat) (bc : Nat → Nat) (p0 : Int32) : CI l yX9_line (wl_ yX9_line cX9_line 2 (some .int)) ({ frames := 1, cells := 0, slots := 0, locals := 21 } : Room) G (TY cI cJ cZ cB cQ) [.ref h0, .int p0] [(h0, oX9 b), (b 1, oX0 bc 0 0 0 0 0 0 0 0 0 0)] sz (fun (r : Int32) (u : Unit) => r = (-2)) (fun _ : Unit => [(h0, oX9 b), (b 1, oX0 bc 0 0 0 0 0 0 0 0 0 0)]) 0 0 := by
  refine CI.go (cc := cX9_line) (maxL := 2) (ret := (some .int)) (by decide) rfl (Nat.le_of_ble_eq_true rfl) ?_
  intro p e s m below meth c A ls Q hBd hret
  obtain ⟨hx, hb, hr, hml, hts, hown, hlk, hnm, hP, hK, hD, hA, hZ, hl⟩ := hBd
  have hown : s.vm.findClass RX9 = some m.cls := hown
  have hl : lv_has ls 2 [(0, .ref h0), (1, .int p0)] := hl
  have hS : va_S A s.heap s.heap [] := va_S.rf
  refine lv_aload_n hx hb dX9_line_0 rfl (lv_at hl 0 rfl) ?_
  refine va_get (D := G) (ci := 9) (v := .ref (b 1)) (C := RX9) (T := TX9) (N := 11) hx hb hts iG_X9 hown hK hP 0 rfl rfl 1 (by decide) (hts _ w_352) (fun _ h9 => h9) rfl dX9_line_1 ?_
  refine lv_iload_n hx hb dX9_line_4 rfl (lv_at hl 1 rfl) ?_
  refine k_i (wc := [(b 1, oX0 bc 0 0 0 0 0 0 0 0 0 0)]) (wr := [(h0, oX9 b)]) hP hD hS hA [1] [0] rfl rfl rfl (by decide) (va_runVN (As := [.int p0]) (rest := []) ⟨hx, hb, hml, hown, hts⟩ (f_X0_hasYear l G cI cJ cZ cB cQ _ (b 1) bc p0) ⟨va_cnB (host := "WidowRoads") 1 hts (gW w_727) rfl rfl rfl (nz_nw hZ nw_724 rfl) (hts _ w_4) hd_X0_hasYear ⟨Nat.le_of_ble_eq_true rfl, Nat.le_of_ble_eq_true rfl⟩, (hts _ w_726), (hts _ wp_39)⟩ (mV hK hZ hP hD [1] rfl rfl [.int p0] 1 0 rfl rfl) rfl rfl hl.1 rfl (lv_room (Nat.le_of_ble_eq_true rfl)) dX9_line_5 ⟨Nat.le_of_ble_eq_true rfl, Nat.le_of_ble_eq_true rfl⟩) (fun r1 u2 H locs hw3 hP hD hS => ?_)
  try dsimp only at hw3
  have hP : va_P G vwCl [(h0, oX9 b), (b 1, oX0 bc 0 0 0 0 0 0 0 0 0 0)] H := hP
  have hD : va_D A [(h0, oX9 b), (b 1, oX0 bc 0 0 0 0 0 0 0 0 0 0)] := hD
  obtain rfl : r1 = 0 := hw3
  refine lv_if_ne (tgt := 14) hx hb dX9_line_8 (by decide) (fun c4 => absurd (by decide) c4) (fun c4 => ?_)
  refine lv_bipush (v := (-2)) hx hb dX9_line_11 (by decide) ?_
  exact hret _ _ _ _ (-2) () hP hD hS dX9_line_13 rfl
set_option maxHeartbeats 4000000 in
set_option maxRecDepth 100000 in
theorem f_X9_house (l : Launch) (G : va_G) (cI cJ cZ cB cQ : ClassId) (sz : Nat) (h0 : Nat) (b : Nat → Nat) (bc : Nat → Nat) (p0 : Int32) (p1 : Int32) : CI l yX9_house (wl_ yX9_house cX9_house 3 (some .int)) ({ frames := 1, cells := 0, slots := 0, locals := 21 } : Room) G (TY cI cJ cZ cB cQ) [.ref h0, .int p0, .int p1] [(h0, oX9 b), (b 1, oX0 bc 0 0 0 0 0 0 0 0 0 0)] sz (fun (r : Int32) (u : Unit) => r = (-2)) (fun _ : Unit => [(h0, oX9 b), (b 1, oX0 bc 0 0 0 0 0 0 0 0 0 0)]) 0 0 := by
  refine CI.go (cc := cX9_house) (maxL := 3) (ret := (some .int)) (by decide) rfl (Nat.le_of_ble_eq_true rfl) ?_
  intro p e s m below meth c A ls Q hBd hret
  obtain ⟨hx, hb, hr, hml, hts, hown, hlk, hnm, hP, hK, hD, hA, hZ, hl⟩ := hBd
  have hown : s.vm.findClass RX9 = some m.cls := hown
  have hl : lv_has ls 3 [(0, .ref h0), (1, .int p0), (2, .int p1)] := hl
  have hS : va_S A s.heap s.heap [] := va_S.rf
  refine lv_aload_n hx hb dX9_house_0 rfl (lv_at hl 0 rfl) ?_
  refine va_get (D := G) (ci := 9) (v := .ref (b 1)) (C := RX9) (T := TX9) (N := 11) hx hb hts iG_X9 hown hK hP 0 rfl rfl 1 (by decide) (hts _ w_352) (fun _ h9 => h9) rfl dX9_house_1 ?_
  refine lv_iload_n hx hb dX9_house_4 rfl (lv_at hl 1 rfl) ?_
  refine k_i (wc := [(b 1, oX0 bc 0 0 0 0 0 0 0 0 0 0)]) (wr := [(h0, oX9 b)]) hP hD hS hA [1] [0] rfl rfl rfl (by decide) (va_runVN (As := [.int p0]) (rest := []) ⟨hx, hb, hml, hown, hts⟩ (f_X0_hasHouse l G cI cJ cZ cB cQ _ (b 1) bc p0) ⟨va_cnB (host := "WidowRoads") 1 hts (gW w_893) rfl rfl rfl (nz_nw hZ nw_890 rfl) (hts _ w_4) hd_X0_hasHouse ⟨Nat.le_of_ble_eq_true rfl, Nat.le_of_ble_eq_true rfl⟩, (hts _ w_892), (hts _ wp_54)⟩ (mV hK hZ hP hD [1] rfl rfl [.int p0] 1 0 rfl rfl) rfl rfl hl.1 rfl (lv_room (Nat.le_of_ble_eq_true rfl)) dX9_house_5 ⟨Nat.le_of_ble_eq_true rfl, Nat.le_of_ble_eq_true rfl⟩) (fun r1 u2 H locs hw3 hP hD hS => ?_)
  try dsimp only at hw3
  have hP : va_P G vwCl [(h0, oX9 b), (b 1, oX0 bc 0 0 0 0 0 0 0 0 0 0)] H := hP
  have hD : va_D A [(h0, oX9 b), (b 1, oX0 bc 0 0 0 0 0 0 0 0 0 0)] := hD
  obtain rfl : r1 = 0 := hw3
  refine lv_if_eq (tgt := 22) hx hb dX9_house_8 (by decide) (fun c4 => ?_) (fun c4 => absurd (by decide) c4)
  refine lv_bipush (v := (-2)) hx hb dX9_house_22 (by decide) ?_
  exact hret _ _ _ _ (-2) () hP hD hS dX9_house_24 rfl
set_option maxHeartbeats 4000000 in
set_option maxRecDepth 100000 in
theorem f_X9_moved (l : Launch) (G : va_G) (cI cJ cZ cB cQ : ClassId) (sz : Nat) (h0 : Nat) (b : Nat → Nat) (bc : Nat → Nat) (p0 : Int32) : CI l yX9_moved (wl_ yX9_moved cX9_moved 2 (some .int)) ({ frames := 1, cells := 0, slots := 0, locals := 21 } : Room) G (TY cI cJ cZ cB cQ) [.ref h0, .int p0] [(h0, oX9 b), (b 1, oX0 bc 0 0 0 0 0 0 0 0 0 0)] sz (fun (r : Int32) (u : Unit) => r = (-2)) (fun _ : Unit => [(h0, oX9 b), (b 1, oX0 bc 0 0 0 0 0 0 0 0 0 0)]) 0 0 := by
  refine CI.go (cc := cX9_moved) (maxL := 2) (ret := (some .int)) (by decide) rfl (Nat.le_of_ble_eq_true rfl) ?_
  intro p e s m below meth c A ls Q hBd hret
  obtain ⟨hx, hb, hr, hml, hts, hown, hlk, hnm, hP, hK, hD, hA, hZ, hl⟩ := hBd
  have hown : s.vm.findClass RX9 = some m.cls := hown
  have hl : lv_has ls 2 [(0, .ref h0), (1, .int p0)] := hl
  have hS : va_S A s.heap s.heap [] := va_S.rf
  refine lv_aload_n hx hb dX9_moved_0 rfl (lv_at hl 0 rfl) ?_
  refine va_get (D := G) (ci := 9) (v := .ref (b 1)) (C := RX9) (T := TX9) (N := 11) hx hb hts iG_X9 hown hK hP 0 rfl rfl 1 (by decide) (hts _ w_352) (fun _ h9 => h9) rfl dX9_moved_1 ?_
  refine lv_iload_n hx hb dX9_moved_4 rfl (lv_at hl 1 rfl) ?_
  refine k_i (wc := [(b 1, oX0 bc 0 0 0 0 0 0 0 0 0 0)]) (wr := [(h0, oX9 b)]) hP hD hS hA [1] [0] rfl rfl rfl (by decide) (va_runVN (As := [.int p0]) (rest := []) ⟨hx, hb, hml, hown, hts⟩ (f_X0_hasHouse l G cI cJ cZ cB cQ _ (b 1) bc p0) ⟨va_cnB (host := "WidowRoads") 1 hts (gW w_893) rfl rfl rfl (nz_nw hZ nw_890 rfl) (hts _ w_4) hd_X0_hasHouse ⟨Nat.le_of_ble_eq_true rfl, Nat.le_of_ble_eq_true rfl⟩, (hts _ w_892), (hts _ wp_54)⟩ (mV hK hZ hP hD [1] rfl rfl [.int p0] 1 0 rfl rfl) rfl rfl hl.1 rfl (lv_room (Nat.le_of_ble_eq_true rfl)) dX9_moved_5 ⟨Nat.le_of_ble_eq_true rfl, Nat.le_of_ble_eq_true rfl⟩) (fun r1 u2 H locs hw3 hP hD hS => ?_)
  try dsimp only at hw3
  have hP : va_P G vwCl [(h0, oX9 b), (b 1, oX0 bc 0 0 0 0 0 0 0 0 0 0)] H := hP
  have hD : va_D A [(h0, oX9 b), (b 1, oX0 bc 0 0 0 0 0 0 0 0 0 0)] := hD
  obtain rfl : r1 = 0 := hw3
  refine lv_if_eq (tgt := 23) hx hb dX9_moved_8 (by decide) (fun c4 => ?_) (fun c4 => absurd (by decide) c4)
  refine lv_bipush (v := (-2)) hx hb dX9_moved_23 (by decide) ?_
  exact hret _ _ _ _ (-2) () hP hD hS dX9_moved_25 rfl
set_option maxHeartbeats 4000000 in
set_option maxRecDepth 100000 in
theorem f_X9_moves (l : Launch) (G : va_G) (cI cJ cZ cB cQ : ClassId) (sz : Nat) (h0 : Nat) (b : Nat → Nat) (bc : Nat → Nat) (p0 : Int32) : CI l yX9_moves (wl_ yX9_moves cX9_moves 2 (some .int)) ({ frames := 1, cells := 0, slots := 0, locals := 22 } : Room) G (TY cI cJ cZ cB cQ) [.ref h0, .int p0] [(h0, oX9 b), (b 1, oX0 bc 0 0 0 0 0 0 0 0 0 0)] sz (fun (r : Int32) (u : Unit) => r = (-2)) (fun _ : Unit => [(h0, oX9 b), (b 1, oX0 bc 0 0 0 0 0 0 0 0 0 0)]) 0 0 := by
  refine CI.go (cc := cX9_moves) (maxL := 2) (ret := (some .int)) (by decide) rfl (Nat.le_of_ble_eq_true rfl) ?_
  intro p e s m below meth c A ls Q hBd hret
  obtain ⟨hx, hb, hr, hml, hts, hown, hlk, hnm, hP, hK, hD, hA, hZ, hl⟩ := hBd
  have hown : s.vm.findClass RX9 = some m.cls := hown
  have hl : lv_has ls 2 [(0, .ref h0), (1, .int p0)] := hl
  have hS : va_S A s.heap s.heap [] := va_S.rf
  refine lv_aload_n hx hb dX9_moves_0 rfl (lv_at hl 0 rfl) ?_
  refine va_get (D := G) (ci := 9) (v := .ref (b 1)) (C := RX9) (T := TX9) (N := 11) hx hb hts iG_X9 hown hK hP 0 rfl rfl 1 (by decide) (hts _ w_352) (fun _ h9 => h9) rfl dX9_moves_1 ?_
  refine lv_iload_n hx hb dX9_moves_4 rfl (lv_at hl 1 rfl) ?_
  obtain ⟨v1, ev1⟩ : ∃ y : Int64, p0.toInt64 = y := ⟨_, rfl⟩
  have tv1 : v1.toInt = p0.toInt := ti_wide rfl ev1
  refine lv_i2l (v := v1) hx hb dX9_moves_5 ev1 ?_
  refine k_i (wc := [(b 1, oX0 bc 0 0 0 0 0 0 0 0 0 0)]) (wr := [(h0, oX9 b)]) hP hD hS hA [1] [0] rfl rfl rfl (by decide) (va_runVN (As := [.long v1]) (rest := []) ⟨hx, hb, hml, hown, hts⟩ (f_X0_hasWidow l G cI cJ cZ cB cQ _ (b 1) bc v1) ⟨va_cnB (host := "WidowRoads") 1 hts (gW w_671) rfl rfl rfl (nz_nw hZ nw_668 rfl) (hts _ w_4) hd_X0_hasWidow ⟨Nat.le_of_ble_eq_true rfl, Nat.le_of_ble_eq_true rfl⟩, (hts _ w_670), (hts _ wp_35)⟩ (mV hK hZ hP hD [1] rfl rfl [.long v1] 1 0 rfl rfl) rfl rfl hl.1 rfl (lv_room (Nat.le_of_ble_eq_true rfl)) dX9_moves_6 ⟨Nat.le_of_ble_eq_true rfl, Nat.le_of_ble_eq_true rfl⟩) (fun r2 u3 H locs hw4 hP hD hS => ?_)
  try dsimp only at hw4
  have hP : va_P G vwCl [(h0, oX9 b), (b 1, oX0 bc 0 0 0 0 0 0 0 0 0 0)] H := hP
  have hD : va_D A [(h0, oX9 b), (b 1, oX0 bc 0 0 0 0 0 0 0 0 0 0)] := hD
  obtain rfl : r2 = 0 := hw4
  refine lv_if_ne (tgt := 15) hx hb dX9_moves_9 (by decide) (fun c5 => absurd (by decide) c5) (fun c5 => ?_)
  refine lv_bipush (v := (-2)) hx hb dX9_moves_12 (by decide) ?_
  exact hret _ _ _ _ (-2) () hP hD hS dX9_moves_14 rfl
set_option maxHeartbeats 4000000 in
set_option maxRecDepth 100000 in
theorem f_X9_served (l : Launch) (G : va_G) (cI cJ cZ cB cQ : ClassId) (sz : Nat) (h0 : Nat) (b : Nat → Nat) (bc : Nat → Nat) (p0 : Int32) : CI l yX9_served (wl_ yX9_served cX9_served 5 (some .int)) ({ frames := 1, cells := 0, slots := 0, locals := 21 } : Room) G (TY cI cJ cZ cB cQ) [.ref h0, .int p0] [(h0, oX9 b), (b 1, oX0 bc 0 0 0 0 0 0 0 0 0 0)] sz (fun (r : Int32) (u : Unit) => r = (-2)) (fun _ : Unit => [(h0, oX9 b), (b 1, oX0 bc 0 0 0 0 0 0 0 0 0 0)]) 0 0 := by
  refine CI.go (cc := cX9_served) (maxL := 5) (ret := (some .int)) (by decide) rfl (Nat.le_of_ble_eq_true rfl) ?_
  intro p e s m below meth c A ls Q hBd hret
  obtain ⟨hx, hb, hr, hml, hts, hown, hlk, hnm, hP, hK, hD, hA, hZ, hl⟩ := hBd
  have hown : s.vm.findClass RX9 = some m.cls := hown
  have hl : lv_has ls 5 [(0, .ref h0), (1, .int p0)] := hl
  have hS : va_S A s.heap s.heap [] := va_S.rf
  refine lv_aload_n hx hb dX9_served_0 rfl (lv_at hl 0 rfl) ?_
  refine va_get (D := G) (ci := 9) (v := .ref (b 1)) (C := RX9) (T := TX9) (N := 11) hx hb hts iG_X9 hown hK hP 0 rfl rfl 1 (by decide) (hts _ w_352) (fun _ h9 => h9) rfl dX9_served_1 ?_
  refine lv_iload_n hx hb dX9_served_4 rfl (lv_at hl 1 rfl) ?_
  refine k_i (wc := [(b 1, oX0 bc 0 0 0 0 0 0 0 0 0 0)]) (wr := [(h0, oX9 b)]) hP hD hS hA [1] [0] rfl rfl rfl (by decide) (va_runVN (As := [.int p0]) (rest := []) ⟨hx, hb, hml, hown, hts⟩ (f_X0_hasYear l G cI cJ cZ cB cQ _ (b 1) bc p0) ⟨va_cnB (host := "WidowRoads") 1 hts (gW w_727) rfl rfl rfl (nz_nw hZ nw_724 rfl) (hts _ w_4) hd_X0_hasYear ⟨Nat.le_of_ble_eq_true rfl, Nat.le_of_ble_eq_true rfl⟩, (hts _ w_726), (hts _ wp_39)⟩ (mV hK hZ hP hD [1] rfl rfl [.int p0] 1 0 rfl rfl) rfl rfl hl.1 rfl (lv_room (Nat.le_of_ble_eq_true rfl)) dX9_served_5 ⟨Nat.le_of_ble_eq_true rfl, Nat.le_of_ble_eq_true rfl⟩) (fun r1 u2 H locs hw3 hP hD hS => ?_)
  try dsimp only at hw3
  have hP : va_P G vwCl [(h0, oX9 b), (b 1, oX0 bc 0 0 0 0 0 0 0 0 0 0)] H := hP
  have hD : va_D A [(h0, oX9 b), (b 1, oX0 bc 0 0 0 0 0 0 0 0 0 0)] := hD
  obtain rfl : r1 = 0 := hw3
  refine lv_if_ne (tgt := 14) hx hb dX9_served_8 (by decide) (fun c4 => absurd (by decide) c4) (fun c4 => ?_)
  refine lv_bipush (v := (-2)) hx hb dX9_served_11 (by decide) ?_
  exact hret _ _ _ _ (-2) () hP hD hS dX9_served_13 rfl
set_option maxHeartbeats 4000000 in
set_option maxRecDepth 100000 in
theorem f_X9_cover (l : Launch) (G : va_G) (cI cJ cZ cB cQ : ClassId) (sz : Nat) (h0 : Nat) (b : Nat → Nat) (bc : Nat → Nat) : CI l yX9_cover (wl_ yX9_cover cX9_cover 1 (some .int)) ({ frames := 0, cells := 0, slots := 0, locals := 0 } : Room) G (TY cI cJ cZ cB cQ) [.ref h0] [(h0, oX9 b), (b 1, oX0 bc 0 0 0 0 0 0 0 0 0 0)] sz (fun (r : Int32) (u : Unit) => r = (-2)) (fun _ : Unit => [(h0, oX9 b), (b 1, oX0 bc 0 0 0 0 0 0 0 0 0 0)]) 0 0 := by
  refine CI.go (cc := cX9_cover) (maxL := 1) (ret := (some .int)) (by decide) rfl (Nat.le_of_ble_eq_true rfl) ?_
  intro p e s m below meth c A ls Q hBd hret
  obtain ⟨hx, hb, hr, hml, hts, hown, hlk, hnm, hP, hK, hD, hA, hZ, hl⟩ := hBd
  have hown : s.vm.findClass RX9 = some m.cls := hown
  have hl : lv_has ls 1 [(0, .ref h0)] := hl
  have hS : va_S A s.heap s.heap [] := va_S.rf
  refine lv_aload_n hx hb dX9_cover_0 rfl (lv_at hl 0 rfl) ?_
  refine va_get (D := G) (ci := 9) (v := .ref (b 1)) (C := RX9) (T := TX9) (N := 11) hx hb hts iG_X9 hown hK hP 0 rfl rfl 1 (by decide) (hts _ w_352) (fun _ h9 => h9) rfl dX9_cover_1 ?_
  refine va_getN (D := G) (ci := 0) (v := .int 0) (C := RX0) (T := TX0) (N := 19) hx hb hts iG_X0 hown hK hP 1 rfl rfl 0 (by decide) (nz_use hZ nw_57 rfl) (fun _ h9 => h9) rfl dX9_cover_4 ?_
  refine lv_if_ne (tgt := 15) hx hb dX9_cover_7 (by decide) (fun c1 => absurd (by decide) c1) (fun c1 => ?_)
  refine lv_bipush (v := (-2)) hx hb dX9_cover_10 (by decide) ?_
  refine lv_goto (tgt := 22) hx hb dX9_cover_12 (by decide) ?_
  exact hret _ _ _ _ (-2) () hP hD hS dX9_cover_22 rfl
set_option maxHeartbeats 4000000 in
set_option maxRecDepth 100000 in
theorem f_X9_covers (l : Launch) (G : va_G) (cI cJ cZ cB cQ : ClassId) (sz : Nat) (h0 : Nat) (b : Nat → Nat) (bc : Nat → Nat) : CI l yX9_covers (wl_ yX9_covers cX9_covers 1 (some .int)) ({ frames := 0, cells := 0, slots := 0, locals := 0 } : Room) G (TY cI cJ cZ cB cQ) [.ref h0] [(h0, oX9 b), (b 1, oX0 bc 0 0 0 0 0 0 0 0 0 0)] sz (fun (r : Int32) (u : Unit) => r = (-2)) (fun _ : Unit => [(h0, oX9 b), (b 1, oX0 bc 0 0 0 0 0 0 0 0 0 0)]) 0 0 := by
  refine CI.go (cc := cX9_covers) (maxL := 1) (ret := (some .int)) (by decide) rfl (Nat.le_of_ble_eq_true rfl) ?_
  intro p e s m below meth c A ls Q hBd hret
  obtain ⟨hx, hb, hr, hml, hts, hown, hlk, hnm, hP, hK, hD, hA, hZ, hl⟩ := hBd
  have hown : s.vm.findClass RX9 = some m.cls := hown
  have hl : lv_has ls 1 [(0, .ref h0)] := hl
  have hS : va_S A s.heap s.heap [] := va_S.rf
  refine lv_aload_n hx hb dX9_covers_0 rfl (lv_at hl 0 rfl) ?_
  refine va_get (D := G) (ci := 9) (v := .ref (b 1)) (C := RX9) (T := TX9) (N := 11) hx hb hts iG_X9 hown hK hP 0 rfl rfl 1 (by decide) (hts _ w_352) (fun _ h9 => h9) rfl dX9_covers_1 ?_
  refine va_getN (D := G) (ci := 0) (v := .int 0) (C := RX0) (T := TX0) (N := 19) hx hb hts iG_X0 hown hK hP 1 rfl rfl 0 (by decide) (nz_use hZ nw_57 rfl) (fun _ h9 => h9) rfl dX9_covers_4 ?_
  refine lv_if_ne (tgt := 15) hx hb dX9_covers_7 (by decide) (fun c1 => absurd (by decide) c1) (fun c1 => ?_)
  refine lv_bipush (v := (-2)) hx hb dX9_covers_10 (by decide) ?_
  refine lv_goto (tgt := 19) hx hb dX9_covers_12 (by decide) ?_
  exact hret _ _ _ _ (-2) () hP hD hS dX9_covers_19 rfl
set_option maxHeartbeats 4000000 in
set_option maxRecDepth 100000 in
theorem f_X9_blame (l : Launch) (G : va_G) (cI cJ cZ cB cQ : ClassId) (sz : Nat) (h0 : Nat) (b : Nat → Nat) (bc : Nat → Nat) : CI l yX9_blame (wl_ yX9_blame cX9_blame 4 (some .int)) ({ frames := 0, cells := 0, slots := 0, locals := 0 } : Room) G (TY cI cJ cZ cB cQ) [.ref h0] [(h0, oX9 b), (b 1, oX0 bc 0 0 0 0 0 0 0 0 0 0)] sz (fun (r : Int32) (u : Unit) => r = (-2)) (fun _ : Unit => [(h0, oX9 b), (b 1, oX0 bc 0 0 0 0 0 0 0 0 0 0)]) 0 0 := by
  refine CI.go (cc := cX9_blame) (maxL := 4) (ret := (some .int)) (by decide) rfl (Nat.le_of_ble_eq_true rfl) ?_
  intro p e s m below meth c A ls Q hBd hret
  obtain ⟨hx, hb, hr, hml, hts, hown, hlk, hnm, hP, hK, hD, hA, hZ, hl⟩ := hBd
  have hown : s.vm.findClass RX9 = some m.cls := hown
  have hl : lv_has ls 4 [(0, .ref h0)] := hl
  have hS : va_S A s.heap s.heap [] := va_S.rf
  refine lv_aload_n hx hb dX9_blame_0 rfl (lv_at hl 0 rfl) ?_
  refine va_get (D := G) (ci := 9) (v := .ref (b 1)) (C := RX9) (T := TX9) (N := 11) hx hb hts iG_X9 hown hK hP 0 rfl rfl 1 (by decide) (hts _ w_352) (fun _ h9 => h9) rfl dX9_blame_1 ?_
  refine va_getN (D := G) (ci := 0) (v := .int 0) (C := RX0) (T := TX0) (N := 19) hx hb hts iG_X0 hown hK hP 1 rfl rfl 0 (by decide) (nz_use hZ nw_57 rfl) (fun _ h9 => h9) rfl dX9_blame_4 ?_
  refine lv_if_ne (tgt := 13) hx hb dX9_blame_7 (by decide) (fun c1 => absurd (by decide) c1) (fun c1 => ?_)
  refine lv_bipush (v := (-2)) hx hb dX9_blame_10 (by decide) ?_
  exact hret _ _ _ _ (-2) () hP hD hS dX9_blame_12 rfl
set_option maxHeartbeats 4000000 in
set_option maxRecDepth 100000 in
theorem f_X9_ford (l : Launch) (G : va_G) (cI cJ cZ cB cQ : ClassId) (sz : Nat) (h0 : Nat) (b : Nat → Nat) (bc : Nat → Nat) : CI l yX9_ford (wl_ yX9_ford cX9_ford 4 (some .int)) ({ frames := 0, cells := 0, slots := 0, locals := 0 } : Room) G (TY cI cJ cZ cB cQ) [.ref h0] [(h0, oX9 b), (b 1, oX0 bc 0 0 0 0 0 0 0 0 0 0)] sz (fun (r : Int32) (u : Unit) => r = (-2)) (fun _ : Unit => [(h0, oX9 b), (b 1, oX0 bc 0 0 0 0 0 0 0 0 0 0)]) 0 0 := by
  refine CI.go (cc := cX9_ford) (maxL := 4) (ret := (some .int)) (by decide) rfl (Nat.le_of_ble_eq_true rfl) ?_
  intro p e s m below meth c A ls Q hBd hret
  obtain ⟨hx, hb, hr, hml, hts, hown, hlk, hnm, hP, hK, hD, hA, hZ, hl⟩ := hBd
  have hown : s.vm.findClass RX9 = some m.cls := hown
  have hl : lv_has ls 4 [(0, .ref h0)] := hl
  have hS : va_S A s.heap s.heap [] := va_S.rf
  refine lv_aload_n hx hb dX9_ford_0 rfl (lv_at hl 0 rfl) ?_
  refine va_get (D := G) (ci := 9) (v := .ref (b 1)) (C := RX9) (T := TX9) (N := 11) hx hb hts iG_X9 hown hK hP 0 rfl rfl 1 (by decide) (hts _ w_352) (fun _ h9 => h9) rfl dX9_ford_1 ?_
  refine va_getN (D := G) (ci := 0) (v := .int 0) (C := RX0) (T := TX0) (N := 19) hx hb hts iG_X0 hown hK hP 1 rfl rfl 0 (by decide) (nz_use hZ nw_57 rfl) (fun _ h9 => h9) rfl dX9_ford_4 ?_
  refine lv_if_ne (tgt := 13) hx hb dX9_ford_7 (by decide) (fun c1 => absurd (by decide) c1) (fun c1 => ?_)
  refine lv_bipush (v := (-2)) hx hb dX9_ford_10 (by decide) ?_
  exact hret _ _ _ _ (-2) () hP hD hS dX9_ford_12 rfl
set_option maxHeartbeats 4000000 in
set_option maxRecDepth 100000 in
theorem f_X9_faced (l : Launch) (G : va_G) (cI cJ cZ cB cQ : ClassId) (sz : Nat) (h0 : Nat) (b : Nat → Nat) (bc : Nat → Nat) (p0 : Int32) (p1 : Int32) : CI l yX9_faced (wl_ yX9_faced cX9_faced 4 (some .int)) ({ frames := 2, cells := 0, slots := 0, locals := 44 } : Room) G (TY cI cJ cZ cB cQ) [.ref h0, .int p0, .int p1] [(h0, oX9 b), (b 1, oX0 bc 0 0 0 0 0 0 0 0 0 0)] sz (fun (r : Int32) (u : Unit) => r = (-2)) (fun _ : Unit => [(h0, oX9 b), (b 1, oX0 bc 0 0 0 0 0 0 0 0 0 0)]) 0 0 := by
  refine CI.go (cc := cX9_faced) (maxL := 4) (ret := (some .int)) (by decide) rfl (Nat.le_of_ble_eq_true rfl) ?_
  intro p e s m below meth c A ls Q hBd hret
  obtain ⟨hx, hb, hr, hml, hts, hown, hlk, hnm, hP, hK, hD, hA, hZ, hl⟩ := hBd
  have hown : s.vm.findClass RX9 = some m.cls := hown
  have hl : lv_has ls 4 [(0, .ref h0), (1, .int p0), (2, .int p1)] := hl
  have hS : va_S A s.heap s.heap [] := va_S.rf
  refine lv_aload_n hx hb dX9_faced_0 rfl (lv_at hl 0 rfl) ?_
  refine lv_iload_n hx hb dX9_faced_1 rfl (lv_at hl 1 rfl) ?_
  refine lv_iload_n hx hb dX9_faced_2 rfl (lv_at hl 2 rfl) ?_
  refine k_i (wc := [(h0, oX9 b), (b 1, oX0 bc 0 0 0 0 0 0 0 0 0 0)]) (wr := []) hP hD hS hA [0, 1] [] rfl rfl rfl (by decide) (va_runV (As := [.int p0, .int p1]) (rest := []) ⟨hx, hb, hml, hown, hts⟩ (f_X9_refusalOfSeen l G cI cJ cZ cB cQ _ h0 b bc p0 p1) (cwV 2 hts (gV w_943 w_945 wp_58 w_1 w_946) rfl rfl rfl ⟨rfl, hd_X9_refusalOfSeen⟩ ⟨Nat.le_of_ble_eq_true rfl, Nat.le_of_ble_eq_true rfl⟩) (mV hK hZ hP hD [0, 1] rfl rfl [.int p0, .int p1] 0 9 rfl rfl) rfl rfl hl.1 rfl (lv_room (Nat.le_of_ble_eq_true rfl)) dX9_faced_3 ⟨Nat.le_of_ble_eq_true rfl, Nat.le_of_ble_eq_true rfl⟩) (fun r1 u2 H locs hw3 hP hD hS => ?_)
  try dsimp only at hw3
  have hP : va_P G vwCl [(h0, oX9 b), (b 1, oX0 bc 0 0 0 0 0 0 0 0 0 0)] H := hP
  have hD : va_D A [(h0, oX9 b), (b 1, oX0 bc 0 0 0 0 0 0 0 0 0 0)] := hD
  obtain rfl : r1 = (-2) := hw3
  refine lv_istore_n (lv' := [(3, .int (-2)), (0, .ref h0), (1, .int p0), (2, .int p1)]) hx hb dX9_faced_6 rfl hl (by decide) rfl (fun ls hl => ?_)
  refine lv_iload_n hx hb dX9_faced_7 rfl (lv_at hl 0 rfl) ?_
  refine lv_if_eq (tgt := 15) hx hb dX9_faced_8 (by decide) (fun c4 => absurd c4 (by decide)) (fun c4 => ?_)
  refine lv_iload_n hx hb dX9_faced_11 rfl (lv_at hl 0 rfl) ?_
  refine lv_goto (tgt := 21) hx hb dX9_faced_12 (by decide) ?_
  exact hret _ _ _ _ (-2) () hP hD hS dX9_faced_21 rfl
set_option maxHeartbeats 4000000 in
set_option maxRecDepth 100000 in
theorem f_X9_griefs (l : Launch) (G : va_G) (cI cJ cZ cB cQ : ClassId) (sz : Nat) (h0 : Nat) (b : Nat → Nat) (bc : Nat → Nat) (p0 : Int32) (p1 : Int32) : CI l yX9_griefs (wl_ yX9_griefs cX9_griefs 6 (some .int)) ({ frames := 2, cells := 0, slots := 0, locals := 44 } : Room) G (TY cI cJ cZ cB cQ) [.ref h0, .int p0, .int p1] [(h0, oX9 b), (b 1, oX0 bc 0 0 0 0 0 0 0 0 0 0)] sz (fun (r : Int32) (u : Unit) => r = (-2)) (fun _ : Unit => [(h0, oX9 b), (b 1, oX0 bc 0 0 0 0 0 0 0 0 0 0)]) 0 0 := by
  refine CI.go (cc := cX9_griefs) (maxL := 6) (ret := (some .int)) (by decide) rfl (Nat.le_of_ble_eq_true rfl) ?_
  intro p e s m below meth c A ls Q hBd hret
  obtain ⟨hx, hb, hr, hml, hts, hown, hlk, hnm, hP, hK, hD, hA, hZ, hl⟩ := hBd
  have hown : s.vm.findClass RX9 = some m.cls := hown
  have hl : lv_has ls 6 [(0, .ref h0), (1, .int p0), (2, .int p1)] := hl
  have hS : va_S A s.heap s.heap [] := va_S.rf
  refine lv_aload_n hx hb dX9_griefs_0 rfl (lv_at hl 0 rfl) ?_
  refine lv_iload_n hx hb dX9_griefs_1 rfl (lv_at hl 1 rfl) ?_
  refine lv_iload_n hx hb dX9_griefs_2 rfl (lv_at hl 2 rfl) ?_
  refine k_i (wc := [(h0, oX9 b), (b 1, oX0 bc 0 0 0 0 0 0 0 0 0 0)]) (wr := []) hP hD hS hA [0, 1] [] rfl rfl rfl (by decide) (va_runV (As := [.int p0, .int p1]) (rest := []) ⟨hx, hb, hml, hown, hts⟩ (f_X9_refusalOfSeen l G cI cJ cZ cB cQ _ h0 b bc p0 p1) (cwV 2 hts (gV w_943 w_945 wp_58 w_1 w_946) rfl rfl rfl ⟨rfl, hd_X9_refusalOfSeen⟩ ⟨Nat.le_of_ble_eq_true rfl, Nat.le_of_ble_eq_true rfl⟩) (mV hK hZ hP hD [0, 1] rfl rfl [.int p0, .int p1] 0 9 rfl rfl) rfl rfl hl.1 rfl (lv_room (Nat.le_of_ble_eq_true rfl)) dX9_griefs_3 ⟨Nat.le_of_ble_eq_true rfl, Nat.le_of_ble_eq_true rfl⟩) (fun r1 u2 H locs hw3 hP hD hS => ?_)
  try dsimp only at hw3
  have hP : va_P G vwCl [(h0, oX9 b), (b 1, oX0 bc 0 0 0 0 0 0 0 0 0 0)] H := hP
  have hD : va_D A [(h0, oX9 b), (b 1, oX0 bc 0 0 0 0 0 0 0 0 0 0)] := hD
  obtain rfl : r1 = (-2) := hw3
  refine lv_istore_n (lv' := [(3, .int (-2)), (0, .ref h0), (1, .int p0), (2, .int p1)]) hx hb dX9_griefs_6 rfl hl (by decide) rfl (fun ls hl => ?_)
  refine lv_iload_n hx hb dX9_griefs_7 rfl (lv_at hl 0 rfl) ?_
  refine lv_if_eq (tgt := 13) hx hb dX9_griefs_8 (by decide) (fun c4 => absurd c4 (by decide)) (fun c4 => ?_)
  refine lv_iload_n hx hb dX9_griefs_11 rfl (lv_at hl 0 rfl) ?_
  exact hret _ _ _ _ (-2) () hP hD hS dX9_griefs_12 rfl
set_option maxHeartbeats 4000000 in
set_option maxRecDepth 100000 in
theorem f_X9_ask (l : Launch) (G : va_G) (cI cJ cZ cB cQ : ClassId) (sz : Nat) (h0 : Nat) (b : Nat → Nat) (bc : Nat → Nat) (p0 : Int32) (p1 : Int32) : CI l yX9_ask (wl_ yX9_ask cX9_ask 9 (some .int)) ({ frames := 2, cells := 0, slots := 0, locals := 44 } : Room) G (TY cI cJ cZ cB cQ) [.ref h0, .int p0, .int p1] [(h0, oX9 b), (b 1, oX0 bc 0 0 0 0 0 0 0 0 0 0)] sz (fun (r : Int32) (u : Unit) => r = (-2)) (fun _ : Unit => [(h0, oX9 b), (b 1, oX0 bc 0 0 0 0 0 0 0 0 0 0)]) 0 0 := by
  refine CI.go (cc := cX9_ask) (maxL := 9) (ret := (some .int)) (by decide) rfl (Nat.le_of_ble_eq_true rfl) ?_
  intro p e s m below meth c A ls Q hBd hret
  obtain ⟨hx, hb, hr, hml, hts, hown, hlk, hnm, hP, hK, hD, hA, hZ, hl⟩ := hBd
  have hown : s.vm.findClass RX9 = some m.cls := hown
  have hl : lv_has ls 9 [(0, .ref h0), (1, .int p0), (2, .int p1)] := hl
  have hS : va_S A s.heap s.heap [] := va_S.rf
  refine lv_aload_n hx hb dX9_ask_0 rfl (lv_at hl 0 rfl) ?_
  refine lv_iload_n hx hb dX9_ask_1 rfl (lv_at hl 1 rfl) ?_
  refine lv_iload_n hx hb dX9_ask_2 rfl (lv_at hl 2 rfl) ?_
  refine k_i (wc := [(h0, oX9 b), (b 1, oX0 bc 0 0 0 0 0 0 0 0 0 0)]) (wr := []) hP hD hS hA [0, 1] [] rfl rfl rfl (by decide) (va_runV (As := [.int p0, .int p1]) (rest := []) ⟨hx, hb, hml, hown, hts⟩ (f_X9_refusalOfSeen l G cI cJ cZ cB cQ _ h0 b bc p0 p1) (cwV 2 hts (gV w_943 w_945 wp_58 w_1 w_946) rfl rfl rfl ⟨rfl, hd_X9_refusalOfSeen⟩ ⟨Nat.le_of_ble_eq_true rfl, Nat.le_of_ble_eq_true rfl⟩) (mV hK hZ hP hD [0, 1] rfl rfl [.int p0, .int p1] 0 9 rfl rfl) rfl rfl hl.1 rfl (lv_room (Nat.le_of_ble_eq_true rfl)) dX9_ask_3 ⟨Nat.le_of_ble_eq_true rfl, Nat.le_of_ble_eq_true rfl⟩) (fun r1 u2 H locs hw3 hP hD hS => ?_)
  try dsimp only at hw3
  have hP : va_P G vwCl [(h0, oX9 b), (b 1, oX0 bc 0 0 0 0 0 0 0 0 0 0)] H := hP
  have hD : va_D A [(h0, oX9 b), (b 1, oX0 bc 0 0 0 0 0 0 0 0 0 0)] := hD
  obtain rfl : r1 = (-2) := hw3
  refine lv_istore_n (lv' := [(3, .int (-2)), (0, .ref h0), (1, .int p0), (2, .int p1)]) hx hb dX9_ask_6 rfl hl (by decide) rfl (fun ls hl => ?_)
  refine lv_iload_n hx hb dX9_ask_7 rfl (lv_at hl 0 rfl) ?_
  refine lv_if_eq (tgt := 13) hx hb dX9_ask_8 (by decide) (fun c4 => absurd c4 (by decide)) (fun c4 => ?_)
  refine lv_iload_n hx hb dX9_ask_11 rfl (lv_at hl 0 rfl) ?_
  exact hret _ _ _ _ (-2) () hP hD hS dX9_ask_12 rfl
set_option maxHeartbeats 4000000 in
set_option maxRecDepth 100000 in
theorem f_X9_leaves (l : Launch) (G : va_G) (cI cJ cZ cB cQ : ClassId) (sz : Nat) (h0 : Nat) (b : Nat → Nat) (bc : Nat → Nat) (p0 : Int32) (p1 : Int32) : CI l yX9_leaves (wl_ yX9_leaves cX9_leaves 7 (some .int)) ({ frames := 2, cells := 0, slots := 0, locals := 44 } : Room) G (TY cI cJ cZ cB cQ) [.ref h0, .int p0, .int p1] [(h0, oX9 b), (b 1, oX0 bc 0 0 0 0 0 0 0 0 0 0)] sz (fun (r : Int32) (u : Unit) => r = (-2)) (fun _ : Unit => [(h0, oX9 b), (b 1, oX0 bc 0 0 0 0 0 0 0 0 0 0)]) 0 0 := by
  refine CI.go (cc := cX9_leaves) (maxL := 7) (ret := (some .int)) (by decide) rfl (Nat.le_of_ble_eq_true rfl) ?_
  intro p e s m below meth c A ls Q hBd hret
  obtain ⟨hx, hb, hr, hml, hts, hown, hlk, hnm, hP, hK, hD, hA, hZ, hl⟩ := hBd
  have hown : s.vm.findClass RX9 = some m.cls := hown
  have hl : lv_has ls 7 [(0, .ref h0), (1, .int p0), (2, .int p1)] := hl
  have hS : va_S A s.heap s.heap [] := va_S.rf
  refine lv_aload_n hx hb dX9_leaves_0 rfl (lv_at hl 0 rfl) ?_
  refine lv_iload_n hx hb dX9_leaves_1 rfl (lv_at hl 1 rfl) ?_
  refine lv_iload_n hx hb dX9_leaves_2 rfl (lv_at hl 2 rfl) ?_
  refine k_i (wc := [(h0, oX9 b), (b 1, oX0 bc 0 0 0 0 0 0 0 0 0 0)]) (wr := []) hP hD hS hA [0, 1] [] rfl rfl rfl (by decide) (va_runV (As := [.int p0, .int p1]) (rest := []) ⟨hx, hb, hml, hown, hts⟩ (f_X9_refusalOfSeen l G cI cJ cZ cB cQ _ h0 b bc p0 p1) (cwV 2 hts (gV w_943 w_945 wp_58 w_1 w_946) rfl rfl rfl ⟨rfl, hd_X9_refusalOfSeen⟩ ⟨Nat.le_of_ble_eq_true rfl, Nat.le_of_ble_eq_true rfl⟩) (mV hK hZ hP hD [0, 1] rfl rfl [.int p0, .int p1] 0 9 rfl rfl) rfl rfl hl.1 rfl (lv_room (Nat.le_of_ble_eq_true rfl)) dX9_leaves_3 ⟨Nat.le_of_ble_eq_true rfl, Nat.le_of_ble_eq_true rfl⟩) (fun r1 u2 H locs hw3 hP hD hS => ?_)
  try dsimp only at hw3
  have hP : va_P G vwCl [(h0, oX9 b), (b 1, oX0 bc 0 0 0 0 0 0 0 0 0 0)] H := hP
  have hD : va_D A [(h0, oX9 b), (b 1, oX0 bc 0 0 0 0 0 0 0 0 0 0)] := hD
  obtain rfl : r1 = (-2) := hw3
  refine lv_istore_n (lv' := [(3, .int (-2)), (0, .ref h0), (1, .int p0), (2, .int p1)]) hx hb dX9_leaves_6 rfl hl (by decide) rfl (fun ls hl => ?_)
  refine lv_iload_n hx hb dX9_leaves_7 rfl (lv_at hl 0 rfl) ?_
  refine lv_if_eq (tgt := 13) hx hb dX9_leaves_8 (by decide) (fun c4 => absurd c4 (by decide)) (fun c4 => ?_)
  refine lv_iload_n hx hb dX9_leaves_11 rfl (lv_at hl 0 rfl) ?_
  exact hret _ _ _ _ (-2) () hP hD hS dX9_leaves_12 rfl
set_option maxHeartbeats 4000000 in
set_option maxRecDepth 100000 in
theorem f_X9_laws (l : Launch) (G : va_G) (cI cJ cZ cB cQ : ClassId) (sz : Nat) (h0 : Nat) (b : Nat → Nat) (bc : Nat → Nat) (p0 : Int32) : CI l yX9_laws (wl_ yX9_laws cX9_laws 5 (some .int)) ({ frames := 1, cells := 0, slots := 0, locals := 21 } : Room) G (TY cI cJ cZ cB cQ) [.ref h0, .int p0] [(h0, oX9 b), (b 1, oX0 bc 0 0 0 0 0 0 0 0 0 0)] sz (fun (r : Int32) (u : Unit) => r = (-2)) (fun _ : Unit => [(h0, oX9 b), (b 1, oX0 bc 0 0 0 0 0 0 0 0 0 0)]) 0 0 := by
  refine CI.go (cc := cX9_laws) (maxL := 5) (ret := (some .int)) (by decide) rfl (Nat.le_of_ble_eq_true rfl) ?_
  intro p e s m below meth c A ls Q hBd hret
  obtain ⟨hx, hb, hr, hml, hts, hown, hlk, hnm, hP, hK, hD, hA, hZ, hl⟩ := hBd
  have hown : s.vm.findClass RX9 = some m.cls := hown
  have hl : lv_has ls 5 [(0, .ref h0), (1, .int p0)] := hl
  have hS : va_S A s.heap s.heap [] := va_S.rf
  refine lv_aload_n hx hb dX9_laws_0 rfl (lv_at hl 0 rfl) ?_
  refine lv_iload_n hx hb dX9_laws_1 rfl (lv_at hl 1 rfl) ?_
  refine k_i (wc := [(h0, oX9 b), (b 1, oX0 bc 0 0 0 0 0 0 0 0 0 0)]) (wr := []) hP hD hS hA [0, 1] [] rfl rfl rfl (by decide) (va_runV (As := [.int p0]) (rest := []) ⟨hx, hb, hml, hown, hts⟩ (f_X9_refusalOfRow l G cI cJ cZ cB cQ _ h0 b bc p0) (cwV 1 hts (gV w_947 w_949 wp_59 w_1 w_950) rfl rfl rfl ⟨rfl, hd_X9_refusalOfRow⟩ ⟨Nat.le_of_ble_eq_true rfl, Nat.le_of_ble_eq_true rfl⟩) (mV hK hZ hP hD [0, 1] rfl rfl [.int p0] 0 9 rfl rfl) rfl rfl hl.1 rfl (lv_room (Nat.le_of_ble_eq_true rfl)) dX9_laws_2 ⟨Nat.le_of_ble_eq_true rfl, Nat.le_of_ble_eq_true rfl⟩) (fun r1 u2 H locs hw3 hP hD hS => ?_)
  try dsimp only at hw3
  have hP : va_P G vwCl [(h0, oX9 b), (b 1, oX0 bc 0 0 0 0 0 0 0 0 0 0)] H := hP
  have hD : va_D A [(h0, oX9 b), (b 1, oX0 bc 0 0 0 0 0 0 0 0 0 0)] := hD
  obtain rfl : r1 = (-2) := hw3
  refine lv_istore_n (lv' := [(2, .int (-2)), (0, .ref h0), (1, .int p0)]) hx hb dX9_laws_5 rfl hl (by decide) rfl (fun ls hl => ?_)
  refine lv_iload_n hx hb dX9_laws_6 rfl (lv_at hl 0 rfl) ?_
  refine lv_if_eq (tgt := 12) hx hb dX9_laws_7 (by decide) (fun c4 => absurd c4 (by decide)) (fun c4 => ?_)
  refine lv_iload_n hx hb dX9_laws_10 rfl (lv_at hl 0 rfl) ?_
  exact hret _ _ _ _ (-2) () hP hD hS dX9_laws_11 rfl
set_option maxHeartbeats 4000000 in
set_option maxRecDepth 100000 in
theorem f_X9_by (l : Launch) (G : va_G) (cI cJ cZ cB cQ : ClassId) (sz : Nat) (h0 : Nat) (b : Nat → Nat) (bc : Nat → Nat) (p0 : Int32) : CI l yX9_by (wl_ yX9_by cX9_by 2 (some .int)) ({ frames := 0, cells := 0, slots := 0, locals := 0 } : Room) G (TY cI cJ cZ cB cQ) [.ref h0, .int p0] [(h0, oX9 b), (b 1, oX0 bc 0 0 0 0 0 0 0 0 0 0)] sz (fun (r : Int32) (u : Unit) => r = (-2)) (fun _ : Unit => [(h0, oX9 b), (b 1, oX0 bc 0 0 0 0 0 0 0 0 0 0)]) 0 0 := by
  refine CI.go (cc := cX9_by) (maxL := 2) (ret := (some .int)) (by decide) rfl (Nat.le_of_ble_eq_true rfl) ?_
  intro p e s m below meth c A ls Q hBd hret
  obtain ⟨hx, hb, hr, hml, hts, hown, hlk, hnm, hP, hK, hD, hA, hZ, hl⟩ := hBd
  have hown : s.vm.findClass RX9 = some m.cls := hown
  have hl : lv_has ls 2 [(0, .ref h0), (1, .int p0)] := hl
  have hS : va_S A s.heap s.heap [] := va_S.rf
  refine lv_aload_n hx hb dX9_by_0 rfl (lv_at hl 0 rfl) ?_
  refine va_get (D := G) (ci := 9) (v := .ref (b 1)) (C := RX9) (T := TX9) (N := 11) hx hb hts iG_X9 hown hK hP 0 rfl rfl 1 (by decide) (hts _ w_352) (fun _ h9 => h9) rfl dX9_by_1 ?_
  refine va_getN (D := G) (ci := 0) (v := .int 0) (C := RX0) (T := TX0) (N := 19) hx hb hts iG_X0 hown hK hP 1 rfl rfl 0 (by decide) (nz_use hZ nw_57 rfl) (fun _ h9 => h9) rfl dX9_by_4 ?_
  refine lv_if_eq (tgt := 19) hx hb dX9_by_7 (by decide) (fun c1 => ?_) (fun c1 => absurd (by decide) c1)
  refine lv_bipush (v := (-2)) hx hb dX9_by_19 (by decide) ?_
  exact hret _ _ _ _ (-2) () hP hD hS dX9_by_21 rfl
set_option maxHeartbeats 4000000 in
set_option maxRecDepth 100000 in
theorem f_X9_law (l : Launch) (G : va_G) (cI cJ cZ cB cQ : ClassId) (sz : Nat) (h0 : Nat) (b : Nat → Nat) (bc : Nat → Nat) : CI l yX9_law (wl_ yX9_law cX9_law 4 (some .int)) ({ frames := 0, cells := 0, slots := 0, locals := 0 } : Room) G (TY cI cJ cZ cB cQ) [.ref h0] [(h0, oX9 b), (b 1, oX0 bc 0 0 0 0 0 0 0 0 0 0)] sz (fun (r : Int32) (u : Unit) => r = (-2)) (fun _ : Unit => [(h0, oX9 b), (b 1, oX0 bc 0 0 0 0 0 0 0 0 0 0)]) 0 0 := by
  refine CI.go (cc := cX9_law) (maxL := 4) (ret := (some .int)) (by decide) rfl (Nat.le_of_ble_eq_true rfl) ?_
  intro p e s m below meth c A ls Q hBd hret
  obtain ⟨hx, hb, hr, hml, hts, hown, hlk, hnm, hP, hK, hD, hA, hZ, hl⟩ := hBd
  have hown : s.vm.findClass RX9 = some m.cls := hown
  have hl : lv_has ls 4 [(0, .ref h0)] := hl
  have hS : va_S A s.heap s.heap [] := va_S.rf
  refine lv_aload_n hx hb dX9_law_0 rfl (lv_at hl 0 rfl) ?_
  refine va_get (D := G) (ci := 9) (v := .ref (b 1)) (C := RX9) (T := TX9) (N := 11) hx hb hts iG_X9 hown hK hP 0 rfl rfl 1 (by decide) (hts _ w_352) (fun _ h9 => h9) rfl dX9_law_1 ?_
  refine va_getN (D := G) (ci := 0) (v := .int 0) (C := RX0) (T := TX0) (N := 19) hx hb hts iG_X0 hown hK hP 1 rfl rfl 0 (by decide) (nz_use hZ nw_57 rfl) (fun _ h9 => h9) rfl dX9_law_4 ?_
  refine lv_if_ne (tgt := 13) hx hb dX9_law_7 (by decide) (fun c1 => absurd (by decide) c1) (fun c1 => ?_)
  refine lv_bipush (v := (-2)) hx hb dX9_law_10 (by decide) ?_
  exact hret _ _ _ _ (-2) () hP hD hS dX9_law_12 rfl
set_option maxHeartbeats 4000000 in
set_option maxRecDepth 100000 in
theorem f_X9_worth (l : Launch) (G : va_G) (cI cJ cZ cB cQ : ClassId) (sz : Nat) (h0 : Nat) (b : Nat → Nat) (bc : Nat → Nat) (p0 : Int32) : CI l yX9_worth (wl_ yX9_worth cX9_worth 2 (some .int)) ({ frames := 0, cells := 0, slots := 0, locals := 0 } : Room) G (TY cI cJ cZ cB cQ) [.ref h0, .int p0] [(h0, oX9 b), (b 1, oX0 bc 0 0 0 0 0 0 0 0 0 0)] sz (fun (r : Int32) (u : Unit) => r = (-2)) (fun _ : Unit => [(h0, oX9 b), (b 1, oX0 bc 0 0 0 0 0 0 0 0 0 0)]) 0 0 := by
  refine CI.go (cc := cX9_worth) (maxL := 2) (ret := (some .int)) (by decide) rfl (Nat.le_of_ble_eq_true rfl) ?_
  intro p e s m below meth c A ls Q hBd hret
  obtain ⟨hx, hb, hr, hml, hts, hown, hlk, hnm, hP, hK, hD, hA, hZ, hl⟩ := hBd
  have hown : s.vm.findClass RX9 = some m.cls := hown
  have hl : lv_has ls 2 [(0, .ref h0), (1, .int p0)] := hl
  have hS : va_S A s.heap s.heap [] := va_S.rf
  refine lv_aload_n hx hb dX9_worth_0 rfl (lv_at hl 0 rfl) ?_
  refine va_get (D := G) (ci := 9) (v := .ref (b 1)) (C := RX9) (T := TX9) (N := 11) hx hb hts iG_X9 hown hK hP 0 rfl rfl 1 (by decide) (hts _ w_352) (fun _ h9 => h9) rfl dX9_worth_1 ?_
  refine va_getN (D := G) (ci := 0) (v := .int 0) (C := RX0) (T := TX0) (N := 19) hx hb hts iG_X0 hown hK hP 1 rfl rfl 0 (by decide) (nz_use hZ nw_57 rfl) (fun _ h9 => h9) rfl dX9_worth_4 ?_
  refine lv_if_eq (tgt := 27) hx hb dX9_worth_7 (by decide) (fun c1 => ?_) (fun c1 => absurd (by decide) c1)
  refine lv_bipush (v := (-2)) hx hb dX9_worth_27 (by decide) ?_
  exact hret _ _ _ _ (-2) () hP hD hS dX9_worth_29 rfl
set_option maxHeartbeats 4000000 in
set_option maxRecDepth 100000 in
theorem f_X9_share (l : Launch) (G : va_G) (cI cJ cZ cB cQ : ClassId) (sz : Nat) (h0 : Nat) (b : Nat → Nat) (bc : Nat → Nat) (p0 : Int32) (p1 : Int32) : CI l yX9_share (wl_ yX9_share cX9_share 3 (some .int)) ({ frames := 1, cells := 0, slots := 0, locals := 22 } : Room) G (TY cI cJ cZ cB cQ) [.ref h0, .int p0, .int p1] [(h0, oX9 b), (b 1, oX0 bc 0 0 0 0 0 0 0 0 0 0)] sz (fun (r : Int32) (u : Unit) => r = (-1000000)) (fun _ : Unit => [(h0, oX9 b), (b 1, oX0 bc 0 0 0 0 0 0 0 0 0 0)]) 0 0 := by
  refine CI.go (cc := cX9_share) (maxL := 3) (ret := (some .int)) (by decide) rfl (Nat.le_of_ble_eq_true rfl) ?_
  intro p e s m below meth c A ls Q hBd hret
  obtain ⟨hx, hb, hr, hml, hts, hown, hlk, hnm, hP, hK, hD, hA, hZ, hl⟩ := hBd
  have hown : s.vm.findClass RX9 = some m.cls := hown
  have hl : lv_has ls 3 [(0, .ref h0), (1, .int p0), (2, .int p1)] := hl
  have hS : va_S A s.heap s.heap [] := va_S.rf
  refine lv_aload_n hx hb dX9_share_0 rfl (lv_at hl 0 rfl) ?_
  refine va_get (D := G) (ci := 9) (v := .ref (b 1)) (C := RX9) (T := TX9) (N := 11) hx hb hts iG_X9 hown hK hP 0 rfl rfl 1 (by decide) (hts _ w_352) (fun _ h9 => h9) rfl dX9_share_1 ?_
  refine lv_iload_n hx hb dX9_share_4 rfl (lv_at hl 1 rfl) ?_
  obtain ⟨v1, ev1⟩ : ∃ y : Int64, p0.toInt64 = y := ⟨_, rfl⟩
  have tv1 : v1.toInt = p0.toInt := ti_wide rfl ev1
  refine lv_i2l (v := v1) hx hb dX9_share_5 ev1 ?_
  refine k_i (wc := [(b 1, oX0 bc 0 0 0 0 0 0 0 0 0 0)]) (wr := [(h0, oX9 b)]) hP hD hS hA [1] [0] rfl rfl rfl (by decide) (va_runVN (As := [.long v1]) (rest := []) ⟨hx, hb, hml, hown, hts⟩ (f_X0_hasWidow l G cI cJ cZ cB cQ _ (b 1) bc v1) ⟨va_cnB (host := "WidowRoads") 1 hts (gW w_671) rfl rfl rfl (nz_nw hZ nw_668 rfl) (hts _ w_4) hd_X0_hasWidow ⟨Nat.le_of_ble_eq_true rfl, Nat.le_of_ble_eq_true rfl⟩, (hts _ w_670), (hts _ wp_35)⟩ (mV hK hZ hP hD [1] rfl rfl [.long v1] 1 0 rfl rfl) rfl rfl hl.1 rfl (lv_room (Nat.le_of_ble_eq_true rfl)) dX9_share_6 ⟨Nat.le_of_ble_eq_true rfl, Nat.le_of_ble_eq_true rfl⟩) (fun r2 u3 H locs hw4 hP hD hS => ?_)
  try dsimp only at hw4
  have hP : va_P G vwCl [(h0, oX9 b), (b 1, oX0 bc 0 0 0 0 0 0 0 0 0 0)] H := hP
  have hD : va_D A [(h0, oX9 b), (b 1, oX0 bc 0 0 0 0 0 0 0 0 0 0)] := hD
  obtain rfl : r2 = 0 := hw4
  refine lv_if_eq (tgt := 19) hx hb dX9_share_9 (by decide) (fun c5 => ?_) (fun c5 => absurd (by decide) c5)
  refine lv_ldcw (v := (-1000000)) hx hb hown (hts _ w_1025) dX9_share_19 ?_
  exact hret _ _ _ _ (-1000000) () hP hD hS dX9_share_22 rfl
set_option maxHeartbeats 4000000 in
set_option maxRecDepth 100000 in
theorem f_X9_rests (l : Launch) (G : va_G) (cI cJ cZ cB cQ : ClassId) (sz : Nat) (h0 : Nat) (b : Nat → Nat) (bc : Nat → Nat) (p0 : Int32) (p1 : Int32) : CI l yX9_rests (wl_ yX9_rests cX9_rests 9 (some .int)) ({ frames := 2, cells := 0, slots := 0, locals := 44 } : Room) G (TY cI cJ cZ cB cQ) [.ref h0, .int p0, .int p1] [(h0, oX9 b), (b 1, oX0 bc 0 0 0 0 0 0 0 0 0 0)] sz (fun (r : Int32) (u : Unit) => r = (-2)) (fun _ : Unit => [(h0, oX9 b), (b 1, oX0 bc 0 0 0 0 0 0 0 0 0 0)]) 0 0 := by
  refine CI.go (cc := cX9_rests) (maxL := 9) (ret := (some .int)) (by decide) rfl (Nat.le_of_ble_eq_true rfl) ?_
  intro p e s m below meth c A ls Q hBd hret
  obtain ⟨hx, hb, hr, hml, hts, hown, hlk, hnm, hP, hK, hD, hA, hZ, hl⟩ := hBd
  have hown : s.vm.findClass RX9 = some m.cls := hown
  have hl : lv_has ls 9 [(0, .ref h0), (1, .int p0), (2, .int p1)] := hl
  have hS : va_S A s.heap s.heap [] := va_S.rf
  refine lv_aload_n hx hb dX9_rests_0 rfl (lv_at hl 0 rfl) ?_
  refine lv_iload_n hx hb dX9_rests_1 rfl (lv_at hl 1 rfl) ?_
  refine lv_iload_n hx hb dX9_rests_2 rfl (lv_at hl 2 rfl) ?_
  refine k_i (wc := [(h0, oX9 b), (b 1, oX0 bc 0 0 0 0 0 0 0 0 0 0)]) (wr := []) hP hD hS hA [0, 1] [] rfl rfl rfl (by decide) (va_runV (As := [.int p0, .int p1]) (rest := []) ⟨hx, hb, hml, hown, hts⟩ (f_X9_areTwo l G cI cJ cZ cB cQ _ h0 b bc p0 p1) (cwV 2 hts (gV w_1049 w_1051 wp_70 w_1 w_1052) rfl rfl rfl ⟨rfl, hd_X9_areTwo⟩ ⟨Nat.le_of_ble_eq_true rfl, Nat.le_of_ble_eq_true rfl⟩) (mV hK hZ hP hD [0, 1] rfl rfl [.int p0, .int p1] 0 9 rfl rfl) rfl rfl hl.1 rfl (lv_room (Nat.le_of_ble_eq_true rfl)) dX9_rests_3 ⟨Nat.le_of_ble_eq_true rfl, Nat.le_of_ble_eq_true rfl⟩) (fun r1 u2 H locs hw3 hP hD hS => ?_)
  try dsimp only at hw3
  have hP : va_P G vwCl [(h0, oX9 b), (b 1, oX0 bc 0 0 0 0 0 0 0 0 0 0)] H := hP
  have hD : va_D A [(h0, oX9 b), (b 1, oX0 bc 0 0 0 0 0 0 0 0 0 0)] := hD
  obtain rfl : r1 = 0 := hw3
  refine lv_if_ne (tgt := 12) hx hb dX9_rests_6 (by decide) (fun c4 => absurd (by decide) c4) (fun c4 => ?_)
  refine lv_bipush (v := (-2)) hx hb dX9_rests_9 (by decide) ?_
  exact hret _ _ _ _ (-2) () hP hD hS dX9_rests_11 rfl
set_option maxHeartbeats 4000000 in
set_option maxRecDepth 100000 in
theorem f_X9_gets (l : Launch) (G : va_G) (cI cJ cZ cB cQ : ClassId) (sz : Nat) (h0 : Nat) (b : Nat → Nat) (bc : Nat → Nat) (p0 : Int32) (p1 : Int32) (p2 : Int32) (p3 : Int32) : CI l yX9_gets (wl_ yX9_gets cX9_gets 5 (some .int)) ({ frames := 2, cells := 0, slots := 0, locals := 44 } : Room) G (TY cI cJ cZ cB cQ) [.ref h0, .int p0, .int p1, .int p2, .int p3] [(h0, oX9 b), (b 1, oX0 bc 0 0 0 0 0 0 0 0 0 0)] sz (fun (r : Int32) (u : Unit) => r = (-1000)) (fun _ : Unit => [(h0, oX9 b), (b 1, oX0 bc 0 0 0 0 0 0 0 0 0 0)]) 0 0 := by
  refine CI.go (cc := cX9_gets) (maxL := 5) (ret := (some .int)) (by decide) rfl (Nat.le_of_ble_eq_true rfl) ?_
  intro p e s m below meth c A ls Q hBd hret
  obtain ⟨hx, hb, hr, hml, hts, hown, hlk, hnm, hP, hK, hD, hA, hZ, hl⟩ := hBd
  have hown : s.vm.findClass RX9 = some m.cls := hown
  have hl : lv_has ls 5 [(0, .ref h0), (1, .int p0), (2, .int p1), (3, .int p2), (4, .int p3)] := hl
  have hS : va_S A s.heap s.heap [] := va_S.rf
  refine lv_aload_n hx hb dX9_gets_0 rfl (lv_at hl 0 rfl) ?_
  refine lv_iload_n hx hb dX9_gets_1 rfl (lv_at hl 1 rfl) ?_
  refine lv_iload_n hx hb dX9_gets_2 rfl (lv_at hl 2 rfl) ?_
  refine k_i (wc := [(h0, oX9 b), (b 1, oX0 bc 0 0 0 0 0 0 0 0 0 0)]) (wr := []) hP hD hS hA [0, 1] [] rfl rfl rfl (by decide) (va_runV (As := [.int p0, .int p1]) (rest := []) ⟨hx, hb, hml, hown, hts⟩ (f_X9_areTwo l G cI cJ cZ cB cQ _ h0 b bc p0 p1) (cwV 2 hts (gV w_1049 w_1051 wp_70 w_1 w_1052) rfl rfl rfl ⟨rfl, hd_X9_areTwo⟩ ⟨Nat.le_of_ble_eq_true rfl, Nat.le_of_ble_eq_true rfl⟩) (mV hK hZ hP hD [0, 1] rfl rfl [.int p0, .int p1] 0 9 rfl rfl) rfl rfl hl.1 rfl (lv_room (Nat.le_of_ble_eq_true rfl)) dX9_gets_3 ⟨Nat.le_of_ble_eq_true rfl, Nat.le_of_ble_eq_true rfl⟩) (fun r1 u2 H locs hw3 hP hD hS => ?_)
  try dsimp only at hw3
  have hP : va_P G vwCl [(h0, oX9 b), (b 1, oX0 bc 0 0 0 0 0 0 0 0 0 0)] H := hP
  have hD : va_D A [(h0, oX9 b), (b 1, oX0 bc 0 0 0 0 0 0 0 0 0 0)] := hD
  obtain rfl : r1 = 0 := hw3
  refine lv_if_eq (tgt := 24) hx hb dX9_gets_6 (by decide) (fun c4 => ?_) (fun c4 => absurd (by decide) c4)
  refine lv_sipush (v := (-1000)) hx hb dX9_gets_24 (by decide) ?_
  exact hret _ _ _ _ (-1000) () hP hD hS dX9_gets_27 rfl
set_option maxHeartbeats 4000000 in
set_option maxRecDepth 100000 in
theorem f_X9_chance (l : Launch) (G : va_G) (cI cJ cZ cB cQ : ClassId) (sz : Nat) (h0 : Nat) (b : Nat → Nat) (bc : Nat → Nat) (p0 : Int32) (p1 : Int32) : CL l yX9_chance (wl_ yX9_chance cX9_chance 4 (some .long)) ({ frames := 1, cells := 0, slots := 0, locals := 22 } : Room) G (TY cI cJ cZ cB cQ) [.ref h0, .int p0, .int p1] [(h0, oX9 b), (b 1, oX0 bc 0 0 0 0 0 0 0 0 0 0)] sz (fun (r : Int64) (u : Unit) => r = (-2)) (fun _ : Unit => [(h0, oX9 b), (b 1, oX0 bc 0 0 0 0 0 0 0 0 0 0)]) 0 0 := by
  refine CL.go (cc := cX9_chance) (maxL := 4) (ret := (some .long)) (by decide) rfl (Nat.le_of_ble_eq_true rfl) ?_
  intro p e s m below meth c A ls Q hBd hret
  obtain ⟨hx, hb, hr, hml, hts, hown, hlk, hnm, hP, hK, hD, hA, hZ, hl⟩ := hBd
  have hown : s.vm.findClass RX9 = some m.cls := hown
  have hl : lv_has ls 4 [(0, .ref h0), (1, .int p0), (2, .int p1)] := hl
  have hS : va_S A s.heap s.heap [] := va_S.rf
  refine lv_aload_n hx hb dX9_chance_0 rfl (lv_at hl 0 rfl) ?_
  refine va_get (D := G) (ci := 9) (v := .ref (b 1)) (C := RX9) (T := TX9) (N := 11) hx hb hts iG_X9 hown hK hP 0 rfl rfl 1 (by decide) (hts _ w_352) (fun _ h9 => h9) rfl dX9_chance_1 ?_
  refine lv_iload_n hx hb dX9_chance_4 rfl (lv_at hl 1 rfl) ?_
  obtain ⟨v1, ev1⟩ : ∃ y : Int64, p0.toInt64 = y := ⟨_, rfl⟩
  have tv1 : v1.toInt = p0.toInt := ti_wide rfl ev1
  refine lv_i2l (v := v1) hx hb dX9_chance_5 ev1 ?_
  refine k_i (wc := [(b 1, oX0 bc 0 0 0 0 0 0 0 0 0 0)]) (wr := [(h0, oX9 b)]) hP hD hS hA [1] [0] rfl rfl rfl (by decide) (va_runVN (As := [.long v1]) (rest := []) ⟨hx, hb, hml, hown, hts⟩ (f_X0_spotOf l G cI cJ cZ cB cQ _ (b 1) bc v1) ⟨va_cnB (host := "WidowRoads") 1 hts (gW w_656) rfl rfl rfl (nz_nw hZ nw_653 rfl) (hts _ w_4) hd_X0_spotOf ⟨Nat.le_of_ble_eq_true rfl, Nat.le_of_ble_eq_true rfl⟩, (hts _ w_655), (hts _ wp_34)⟩ (mV hK hZ hP hD [1] rfl rfl [.long v1] 1 0 rfl rfl) rfl rfl hl.1 rfl (lv_room (Nat.le_of_ble_eq_true rfl)) dX9_chance_6 ⟨Nat.le_of_ble_eq_true rfl, Nat.le_of_ble_eq_true rfl⟩) (fun r2 u3 H locs hw4 hP hD hS => ?_)
  try dsimp only at hw4
  have hP : va_P G vwCl [(h0, oX9 b), (b 1, oX0 bc 0 0 0 0 0 0 0 0 0 0)] H := hP
  have hD : va_D A [(h0, oX9 b), (b 1, oX0 bc 0 0 0 0 0 0 0 0 0 0)] := hD
  obtain rfl : r2 = (-1) := hw4
  refine lv_istore_n (lv' := [(3, .int (-1)), (0, .ref h0), (1, .int p0), (2, .int p1)]) hx hb dX9_chance_9 rfl hl (by decide) rfl (fun ls hl => ?_)
  refine lv_iload_n hx hb dX9_chance_10 rfl (lv_at hl 0 rfl) ?_
  refine lv_iconst (v := (-1)) hx hb dX9_chance_11 (by decide) ?_
  refine lv_icmp_eq (tgt := 22) hx hb dX9_chance_12 (by decide) (fun c5 => ?_) (fun c5 => absurd (by decide) c5)
  refine lv_ldc2 (v := (-2)) hx hb hown (hts _ w_1073) dX9_chance_22 ?_
  exact hret _ _ _ _ (-2) () hP hD hS dX9_chance_25 rfl
set_option maxHeartbeats 4000000 in
set_option maxRecDepth 100000 in
theorem f_X9_mean (l : Launch) (G : va_G) (cI cJ cZ cB cQ : ClassId) (sz : Nat) (h0 : Nat) (b : Nat → Nat) (bc : Nat → Nat) (p0 : Int32) : CL l yX9_mean (wl_ yX9_mean cX9_mean 2 (some .long)) ({ frames := 0, cells := 0, slots := 0, locals := 0 } : Room) G (TY cI cJ cZ cB cQ) [.ref h0, .int p0] [(h0, oX9 b), (b 1, oX0 bc 0 0 0 0 0 0 0 0 0 0)] sz (fun (r : Int64) (u : Unit) => r = (-2)) (fun _ : Unit => [(h0, oX9 b), (b 1, oX0 bc 0 0 0 0 0 0 0 0 0 0)]) 0 0 := by
  refine CL.go (cc := cX9_mean) (maxL := 2) (ret := (some .long)) (by decide) rfl (Nat.le_of_ble_eq_true rfl) ?_
  intro p e s m below meth c A ls Q hBd hret
  obtain ⟨hx, hb, hr, hml, hts, hown, hlk, hnm, hP, hK, hD, hA, hZ, hl⟩ := hBd
  have hown : s.vm.findClass RX9 = some m.cls := hown
  have hl : lv_has ls 2 [(0, .ref h0), (1, .int p0)] := hl
  have hS : va_S A s.heap s.heap [] := va_S.rf
  refine lv_aload_n hx hb dX9_mean_0 rfl (lv_at hl 0 rfl) ?_
  refine va_get (D := G) (ci := 9) (v := .ref (b 1)) (C := RX9) (T := TX9) (N := 11) hx hb hts iG_X9 hown hK hP 0 rfl rfl 1 (by decide) (hts _ w_352) (fun _ h9 => h9) rfl dX9_mean_1 ?_
  refine va_getN (D := G) (ci := 0) (v := .int 0) (C := RX0) (T := TX0) (N := 19) hx hb hts iG_X0 hown hK hP 1 rfl rfl 0 (by decide) (nz_use hZ nw_57 rfl) (fun _ h9 => h9) rfl dX9_mean_4 ?_
  refine lv_if_eq (tgt := 17) hx hb dX9_mean_7 (by decide) (fun c1 => ?_) (fun c1 => absurd (by decide) c1)
  refine lv_ldc2 (v := (-2)) hx hb hown (hts _ w_1073) dX9_mean_17 ?_
  exact hret _ _ _ _ (-2) () hP hD hS dX9_mean_20 rfl
set_option maxHeartbeats 4000000 in
set_option maxRecDepth 100000 in
theorem f_X9_bridge (l : Launch) (G : va_G) (cI cJ cZ cB cQ : ClassId) (sz : Nat) (h0 : Nat) (b : Nat → Nat) (bc : Nat → Nat) (p0 : Int32) : CI l yX9_bridge (wl_ yX9_bridge cX9_bridge 3 (some .int)) ({ frames := 1, cells := 0, slots := 0, locals := 22 } : Room) G (TY cI cJ cZ cB cQ) [.ref h0, .int p0] [(h0, oX9 b), (b 1, oX0 bc 0 0 0 0 0 0 0 0 0 0)] sz (fun (r : Int32) (u : Unit) => r = (-2)) (fun _ : Unit => [(h0, oX9 b), (b 1, oX0 bc 0 0 0 0 0 0 0 0 0 0)]) 0 0 := by
  refine CI.go (cc := cX9_bridge) (maxL := 3) (ret := (some .int)) (by decide) rfl (Nat.le_of_ble_eq_true rfl) ?_
  intro p e s m below meth c A ls Q hBd hret
  obtain ⟨hx, hb, hr, hml, hts, hown, hlk, hnm, hP, hK, hD, hA, hZ, hl⟩ := hBd
  have hown : s.vm.findClass RX9 = some m.cls := hown
  have hl : lv_has ls 3 [(0, .ref h0), (1, .int p0)] := hl
  have hS : va_S A s.heap s.heap [] := va_S.rf
  refine lv_aload_n hx hb dX9_bridge_0 rfl (lv_at hl 0 rfl) ?_
  refine va_get (D := G) (ci := 9) (v := .ref (b 1)) (C := RX9) (T := TX9) (N := 11) hx hb hts iG_X9 hown hK hP 0 rfl rfl 1 (by decide) (hts _ w_352) (fun _ h9 => h9) rfl dX9_bridge_1 ?_
  refine lv_iload_n hx hb dX9_bridge_4 rfl (lv_at hl 1 rfl) ?_
  obtain ⟨v1, ev1⟩ : ∃ y : Int64, p0.toInt64 = y := ⟨_, rfl⟩
  have tv1 : v1.toInt = p0.toInt := ti_wide rfl ev1
  refine lv_i2l (v := v1) hx hb dX9_bridge_5 ev1 ?_
  refine k_i (wc := [(b 1, oX0 bc 0 0 0 0 0 0 0 0 0 0)]) (wr := [(h0, oX9 b)]) hP hD hS hA [1] [0] rfl rfl rfl (by decide) (va_runVN (As := [.long v1]) (rest := []) ⟨hx, hb, hml, hown, hts⟩ (f_X0_spotOf l G cI cJ cZ cB cQ _ (b 1) bc v1) ⟨va_cnB (host := "WidowRoads") 1 hts (gW w_656) rfl rfl rfl (nz_nw hZ nw_653 rfl) (hts _ w_4) hd_X0_spotOf ⟨Nat.le_of_ble_eq_true rfl, Nat.le_of_ble_eq_true rfl⟩, (hts _ w_655), (hts _ wp_34)⟩ (mV hK hZ hP hD [1] rfl rfl [.long v1] 1 0 rfl rfl) rfl rfl hl.1 rfl (lv_room (Nat.le_of_ble_eq_true rfl)) dX9_bridge_6 ⟨Nat.le_of_ble_eq_true rfl, Nat.le_of_ble_eq_true rfl⟩) (fun r2 u3 H locs hw4 hP hD hS => ?_)
  try dsimp only at hw4
  have hP : va_P G vwCl [(h0, oX9 b), (b 1, oX0 bc 0 0 0 0 0 0 0 0 0 0)] H := hP
  have hD : va_D A [(h0, oX9 b), (b 1, oX0 bc 0 0 0 0 0 0 0 0 0 0)] := hD
  obtain rfl : r2 = (-1) := hw4
  refine lv_istore_n (lv' := [(2, .int (-1)), (0, .ref h0), (1, .int p0)]) hx hb dX9_bridge_9 rfl hl (by decide) rfl (fun ls hl => ?_)
  refine lv_iload_n hx hb dX9_bridge_10 rfl (lv_at hl 0 rfl) ?_
  refine lv_iconst (v := (-1)) hx hb dX9_bridge_11 (by decide) ?_
  refine lv_icmp_ne (tgt := 18) hx hb dX9_bridge_12 (by decide) (fun c5 => absurd (by decide) c5) (fun c5 => ?_)
  refine lv_bipush (v := (-2)) hx hb dX9_bridge_15 (by decide) ?_
  exact hret _ _ _ _ (-2) () hP hD hS dX9_bridge_17 rfl
set_option maxHeartbeats 4000000 in
set_option maxRecDepth 100000 in
theorem f_X9_keeps (l : Launch) (G : va_G) (cI cJ cZ cB cQ : ClassId) (sz : Nat) (h0 : Nat) (b : Nat → Nat) (bc : Nat → Nat) (p0 : Int32) : CI l yX9_keeps (wl_ yX9_keeps cX9_keeps 2 (some .int)) ({ frames := 1, cells := 0, slots := 0, locals := 22 } : Room) G (TY cI cJ cZ cB cQ) [.ref h0, .int p0] [(h0, oX9 b), (b 1, oX0 bc 0 0 0 0 0 0 0 0 0 0)] sz (fun (r : Int32) (u : Unit) => r = (-2)) (fun _ : Unit => [(h0, oX9 b), (b 1, oX0 bc 0 0 0 0 0 0 0 0 0 0)]) 0 0 := by
  refine CI.go (cc := cX9_keeps) (maxL := 2) (ret := (some .int)) (by decide) rfl (Nat.le_of_ble_eq_true rfl) ?_
  intro p e s m below meth c A ls Q hBd hret
  obtain ⟨hx, hb, hr, hml, hts, hown, hlk, hnm, hP, hK, hD, hA, hZ, hl⟩ := hBd
  have hown : s.vm.findClass RX9 = some m.cls := hown
  have hl : lv_has ls 2 [(0, .ref h0), (1, .int p0)] := hl
  have hS : va_S A s.heap s.heap [] := va_S.rf
  refine lv_aload_n hx hb dX9_keeps_0 rfl (lv_at hl 0 rfl) ?_
  refine va_get (D := G) (ci := 9) (v := .ref (b 1)) (C := RX9) (T := TX9) (N := 11) hx hb hts iG_X9 hown hK hP 0 rfl rfl 1 (by decide) (hts _ w_352) (fun _ h9 => h9) rfl dX9_keeps_1 ?_
  refine lv_iload_n hx hb dX9_keeps_4 rfl (lv_at hl 1 rfl) ?_
  obtain ⟨v1, ev1⟩ : ∃ y : Int64, p0.toInt64 = y := ⟨_, rfl⟩
  have tv1 : v1.toInt = p0.toInt := ti_wide rfl ev1
  refine lv_i2l (v := v1) hx hb dX9_keeps_5 ev1 ?_
  refine k_i (wc := [(b 1, oX0 bc 0 0 0 0 0 0 0 0 0 0)]) (wr := [(h0, oX9 b)]) hP hD hS hA [1] [0] rfl rfl rfl (by decide) (va_runVN (As := [.long v1]) (rest := []) ⟨hx, hb, hml, hown, hts⟩ (f_X0_hasWidow l G cI cJ cZ cB cQ _ (b 1) bc v1) ⟨va_cnB (host := "WidowRoads") 1 hts (gW w_671) rfl rfl rfl (nz_nw hZ nw_668 rfl) (hts _ w_4) hd_X0_hasWidow ⟨Nat.le_of_ble_eq_true rfl, Nat.le_of_ble_eq_true rfl⟩, (hts _ w_670), (hts _ wp_35)⟩ (mV hK hZ hP hD [1] rfl rfl [.long v1] 1 0 rfl rfl) rfl rfl hl.1 rfl (lv_room (Nat.le_of_ble_eq_true rfl)) dX9_keeps_6 ⟨Nat.le_of_ble_eq_true rfl, Nat.le_of_ble_eq_true rfl⟩) (fun r2 u3 H locs hw4 hP hD hS => ?_)
  try dsimp only at hw4
  have hP : va_P G vwCl [(h0, oX9 b), (b 1, oX0 bc 0 0 0 0 0 0 0 0 0 0)] H := hP
  have hD : va_D A [(h0, oX9 b), (b 1, oX0 bc 0 0 0 0 0 0 0 0 0 0)] := hD
  obtain rfl : r2 = 0 := hw4
  refine lv_if_ne (tgt := 15) hx hb dX9_keeps_9 (by decide) (fun c5 => absurd (by decide) c5) (fun c5 => ?_)
  refine lv_bipush (v := (-2)) hx hb dX9_keeps_12 (by decide) ?_
  exact hret _ _ _ _ (-2) () hP hD hS dX9_keeps_14 rfl
set_option maxHeartbeats 4000000 in
set_option maxRecDepth 100000 in
theorem f_X9_undo (l : Launch) (G : va_G) (cI cJ cZ cB cQ : ClassId) (sz : Nat) (h0 : Nat) (b : Nat → Nat) (bc : Nat → Nat) : CI l yX9_undo (wl_ yX9_undo cX9_undo 1 (some .int)) ({ frames := 0, cells := 0, slots := 0, locals := 0 } : Room) G (TY cI cJ cZ cB cQ) [.ref h0] [(h0, oX9 b), (b 1, oX0 bc 0 0 0 0 0 0 0 0 0 0)] sz (fun (r : Int32) (u : Unit) => r = (-2)) (fun _ : Unit => [(h0, oX9 b), (b 1, oX0 bc 0 0 0 0 0 0 0 0 0 0)]) 0 0 := by
  refine CI.go (cc := cX9_undo) (maxL := 1) (ret := (some .int)) (by decide) rfl (Nat.le_of_ble_eq_true rfl) ?_
  intro p e s m below meth c A ls Q hBd hret
  obtain ⟨hx, hb, hr, hml, hts, hown, hlk, hnm, hP, hK, hD, hA, hZ, hl⟩ := hBd
  have hown : s.vm.findClass RX9 = some m.cls := hown
  have hl : lv_has ls 1 [(0, .ref h0)] := hl
  have hS : va_S A s.heap s.heap [] := va_S.rf
  refine lv_aload_n hx hb dX9_undo_0 rfl (lv_at hl 0 rfl) ?_
  refine va_get (D := G) (ci := 9) (v := .ref (b 1)) (C := RX9) (T := TX9) (N := 11) hx hb hts iG_X9 hown hK hP 0 rfl rfl 1 (by decide) (hts _ w_352) (fun _ h9 => h9) rfl dX9_undo_1 ?_
  refine va_getN (D := G) (ci := 0) (v := .int 0) (C := RX0) (T := TX0) (N := 19) hx hb hts iG_X0 hown hK hP 1 rfl rfl 0 (by decide) (nz_use hZ nw_57 rfl) (fun _ h9 => h9) rfl dX9_undo_4 ?_
  refine lv_if_ne (tgt := 13) hx hb dX9_undo_7 (by decide) (fun c1 => absurd (by decide) c1) (fun c1 => ?_)
  refine lv_bipush (v := (-2)) hx hb dX9_undo_10 (by decide) ?_
  exact hret _ _ _ _ (-2) () hP hD hS dX9_undo_12 rfl
set_option maxHeartbeats 4000000 in
set_option maxRecDepth 100000 in
theorem f_X9_anew (l : Launch) (G : va_G) (cI cJ cZ cB cQ : ClassId) (sz : Nat) (h0 : Nat) (b : Nat → Nat) (bc : Nat → Nat) : CI l yX9_anew (wl_ yX9_anew cX9_anew 2 (some .int)) ({ frames := 0, cells := 0, slots := 0, locals := 0 } : Room) G (TY cI cJ cZ cB cQ) [.ref h0] [(h0, oX9 b), (b 1, oX0 bc 0 0 0 0 0 0 0 0 0 0)] sz (fun (r : Int32) (u : Unit) => r = (-2)) (fun _ : Unit => [(h0, oX9 b), (b 1, oX0 bc 0 0 0 0 0 0 0 0 0 0)]) 0 0 := by
  refine CI.go (cc := cX9_anew) (maxL := 2) (ret := (some .int)) (by decide) rfl (Nat.le_of_ble_eq_true rfl) ?_
  intro p e s m below meth c A ls Q hBd hret
  obtain ⟨hx, hb, hr, hml, hts, hown, hlk, hnm, hP, hK, hD, hA, hZ, hl⟩ := hBd
  have hown : s.vm.findClass RX9 = some m.cls := hown
  have hl : lv_has ls 2 [(0, .ref h0)] := hl
  have hS : va_S A s.heap s.heap [] := va_S.rf
  refine lv_aload_n hx hb dX9_anew_0 rfl (lv_at hl 0 rfl) ?_
  refine va_get (D := G) (ci := 9) (v := .ref (b 1)) (C := RX9) (T := TX9) (N := 11) hx hb hts iG_X9 hown hK hP 0 rfl rfl 1 (by decide) (hts _ w_352) (fun _ h9 => h9) rfl dX9_anew_1 ?_
  refine va_getN (D := G) (ci := 0) (v := .int 0) (C := RX0) (T := TX0) (N := 19) hx hb hts iG_X0 hown hK hP 1 rfl rfl 0 (by decide) (nz_use hZ nw_57 rfl) (fun _ h9 => h9) rfl dX9_anew_4 ?_
  refine lv_if_ne (tgt := 13) hx hb dX9_anew_7 (by decide) (fun c1 => absurd (by decide) c1) (fun c1 => ?_)
  refine lv_bipush (v := (-2)) hx hb dX9_anew_10 (by decide) ?_
  exact hret _ _ _ _ (-2) () hP hD hS dX9_anew_12 rfl
set_option maxHeartbeats 4000000 in
set_option maxRecDepth 100000 in
theorem f_X9_drawn (l : Launch) (G : va_G) (cI cJ cZ cB cQ : ClassId) (sz : Nat) (h0 : Nat) (b : Nat → Nat) (bc : Nat → Nat) (p0 : Int32) (p1 : Int32) : CI l yX9_drawn (wl_ yX9_drawn cX9_drawn 4 (some .int)) ({ frames := 0, cells := 0, slots := 0, locals := 0 } : Room) G (TY cI cJ cZ cB cQ) [.ref h0, .int p0, .int p1] [(h0, oX9 b), (b 1, oX0 bc 0 0 0 0 0 0 0 0 0 0)] sz (fun (r : Int32) (u : Unit) => r = (-2)) (fun _ : Unit => [(h0, oX9 b), (b 1, oX0 bc 0 0 0 0 0 0 0 0 0 0)]) 0 0 := by
  refine CI.go (cc := cX9_drawn) (maxL := 4) (ret := (some .int)) (by decide) rfl (Nat.le_of_ble_eq_true rfl) ?_
  intro p e s m below meth c A ls Q hBd hret
  obtain ⟨hx, hb, hr, hml, hts, hown, hlk, hnm, hP, hK, hD, hA, hZ, hl⟩ := hBd
  have hown : s.vm.findClass RX9 = some m.cls := hown
  have hl : lv_has ls 4 [(0, .ref h0), (1, .int p0), (2, .int p1)] := hl
  have hS : va_S A s.heap s.heap [] := va_S.rf
  refine lv_aload_n hx hb dX9_drawn_0 rfl (lv_at hl 0 rfl) ?_
  refine va_get (D := G) (ci := 9) (v := .ref (b 1)) (C := RX9) (T := TX9) (N := 11) hx hb hts iG_X9 hown hK hP 0 rfl rfl 1 (by decide) (hts _ w_352) (fun _ h9 => h9) rfl dX9_drawn_1 ?_
  refine va_getN (D := G) (ci := 0) (v := .int 0) (C := RX0) (T := TX0) (N := 19) hx hb hts iG_X0 hown hK hP 1 rfl rfl 0 (by decide) (nz_use hZ nw_57 rfl) (fun _ h9 => h9) rfl dX9_drawn_4 ?_
  refine lv_if_eq (tgt := 24) hx hb dX9_drawn_7 (by decide) (fun c1 => ?_) (fun c1 => absurd (by decide) c1)
  refine lv_bipush (v := (-2)) hx hb dX9_drawn_24 (by decide) ?_
  exact hret _ _ _ _ (-2) () hP hD hS dX9_drawn_26 rfl
set_option maxHeartbeats 4000000 in
set_option maxRecDepth 100000 in
theorem f_X9_luck (l : Launch) (G : va_G) (cI cJ cZ cB cQ : ClassId) (sz : Nat) (h0 : Nat) (b : Nat → Nat) (bc : Nat → Nat) (p0 : Int32) (p1 : Int32) (p2 : Int32) : CI l yX9_luck (wl_ yX9_luck cX9_luck 7 (some .int)) ({ frames := 1, cells := 0, slots := 0, locals := 22 } : Room) G (TY cI cJ cZ cB cQ) [.ref h0, .int p0, .int p1, .int p2] [(h0, oX9 b), (b 1, oX0 bc 0 0 0 0 0 0 0 0 0 0)] sz (fun (r : Int32) (u : Unit) => r = (-2)) (fun _ : Unit => [(h0, oX9 b), (b 1, oX0 bc 0 0 0 0 0 0 0 0 0 0)]) 0 0 := by
  refine CI.go (cc := cX9_luck) (maxL := 7) (ret := (some .int)) (by decide) rfl (Nat.le_of_ble_eq_true rfl) ?_
  intro p e s m below meth c A ls Q hBd hret
  obtain ⟨hx, hb, hr, hml, hts, hown, hlk, hnm, hP, hK, hD, hA, hZ, hl⟩ := hBd
  have hown : s.vm.findClass RX9 = some m.cls := hown
  have hl : lv_has ls 7 [(0, .ref h0), (1, .int p0), (2, .int p1), (3, .int p2)] := hl
  have hS : va_S A s.heap s.heap [] := va_S.rf
  refine lv_aload_n hx hb dX9_luck_0 rfl (lv_at hl 0 rfl) ?_
  refine va_get (D := G) (ci := 9) (v := .ref (b 1)) (C := RX9) (T := TX9) (N := 11) hx hb hts iG_X9 hown hK hP 0 rfl rfl 1 (by decide) (hts _ w_352) (fun _ h9 => h9) rfl dX9_luck_1 ?_
  refine lv_iload_n hx hb dX9_luck_4 rfl (lv_at hl 3 rfl) ?_
  obtain ⟨v1, ev1⟩ : ∃ y : Int64, p2.toInt64 = y := ⟨_, rfl⟩
  have tv1 : v1.toInt = p2.toInt := ti_wide rfl ev1
  refine lv_i2l (v := v1) hx hb dX9_luck_5 ev1 ?_
  refine k_i (wc := [(b 1, oX0 bc 0 0 0 0 0 0 0 0 0 0)]) (wr := [(h0, oX9 b)]) hP hD hS hA [1] [0] rfl rfl rfl (by decide) (va_runVN (As := [.long v1]) (rest := []) ⟨hx, hb, hml, hown, hts⟩ (f_X0_spotOf l G cI cJ cZ cB cQ _ (b 1) bc v1) ⟨va_cnB (host := "WidowRoads") 1 hts (gW w_656) rfl rfl rfl (nz_nw hZ nw_653 rfl) (hts _ w_4) hd_X0_spotOf ⟨Nat.le_of_ble_eq_true rfl, Nat.le_of_ble_eq_true rfl⟩, (hts _ w_655), (hts _ wp_34)⟩ (mV hK hZ hP hD [1] rfl rfl [.long v1] 1 0 rfl rfl) rfl rfl hl.1 rfl (lv_room (Nat.le_of_ble_eq_true rfl)) dX9_luck_6 ⟨Nat.le_of_ble_eq_true rfl, Nat.le_of_ble_eq_true rfl⟩) (fun r2 u3 H locs hw4 hP hD hS => ?_)
  try dsimp only at hw4
  have hP : va_P G vwCl [(h0, oX9 b), (b 1, oX0 bc 0 0 0 0 0 0 0 0 0 0)] H := hP
  have hD : va_D A [(h0, oX9 b), (b 1, oX0 bc 0 0 0 0 0 0 0 0 0 0)] := hD
  obtain rfl : r2 = (-1) := hw4
  refine lv_istore (lv' := [(4, .int (-1)), (0, .ref h0), (1, .int p0), (2, .int p1), (3, .int p2)]) hx hb dX9_luck_9 hl (by decide) rfl (fun ls hl => ?_)
  refine lv_iload hx hb dX9_luck_11 (lv_at hl 0 rfl) ?_
  refine lv_iconst (v := (-1)) hx hb dX9_luck_13 (by decide) ?_
  refine lv_icmp_eq (tgt := 35) hx hb dX9_luck_14 (by decide) (fun c5 => ?_) (fun c5 => absurd (by decide) c5)
  refine lv_bipush (v := (-2)) hx hb dX9_luck_35 (by decide) ?_
  exact hret _ _ _ _ (-2) () hP hD hS dX9_luck_37 rfl
set_option maxHeartbeats 4000000 in
set_option maxRecDepth 100000 in
theorem f_X9_rate (l : Launch) (G : va_G) (cI cJ cZ cB cQ : ClassId) (sz : Nat) (h0 : Nat) (b : Nat → Nat) (bc : Nat → Nat) (p0 : Int32) (p1 : Int32) : CI l yX9_rate (wl_ yX9_rate cX9_rate 4 (some .int)) ({ frames := 1, cells := 0, slots := 0, locals := 22 } : Room) G (TY cI cJ cZ cB cQ) [.ref h0, .int p0, .int p1] [(h0, oX9 b), (b 1, oX0 bc 0 0 0 0 0 0 0 0 0 0)] sz (fun (r : Int32) (u : Unit) => r = (-2)) (fun _ : Unit => [(h0, oX9 b), (b 1, oX0 bc 0 0 0 0 0 0 0 0 0 0)]) 0 0 := by
  refine CI.go (cc := cX9_rate) (maxL := 4) (ret := (some .int)) (by decide) rfl (Nat.le_of_ble_eq_true rfl) ?_
  intro p e s m below meth c A ls Q hBd hret
  obtain ⟨hx, hb, hr, hml, hts, hown, hlk, hnm, hP, hK, hD, hA, hZ, hl⟩ := hBd
  have hown : s.vm.findClass RX9 = some m.cls := hown
  have hl : lv_has ls 4 [(0, .ref h0), (1, .int p0), (2, .int p1)] := hl
  have hS : va_S A s.heap s.heap [] := va_S.rf
  refine lv_aload_n hx hb dX9_rate_0 rfl (lv_at hl 0 rfl) ?_
  refine va_get (D := G) (ci := 9) (v := .ref (b 1)) (C := RX9) (T := TX9) (N := 11) hx hb hts iG_X9 hown hK hP 0 rfl rfl 1 (by decide) (hts _ w_352) (fun _ h9 => h9) rfl dX9_rate_1 ?_
  refine lv_iload_n hx hb dX9_rate_4 rfl (lv_at hl 1 rfl) ?_
  obtain ⟨v1, ev1⟩ : ∃ y : Int64, p0.toInt64 = y := ⟨_, rfl⟩
  have tv1 : v1.toInt = p0.toInt := ti_wide rfl ev1
  refine lv_i2l (v := v1) hx hb dX9_rate_5 ev1 ?_
  refine k_i (wc := [(b 1, oX0 bc 0 0 0 0 0 0 0 0 0 0)]) (wr := [(h0, oX9 b)]) hP hD hS hA [1] [0] rfl rfl rfl (by decide) (va_runVN (As := [.long v1]) (rest := []) ⟨hx, hb, hml, hown, hts⟩ (f_X0_hasWidow l G cI cJ cZ cB cQ _ (b 1) bc v1) ⟨va_cnB (host := "WidowRoads") 1 hts (gW w_671) rfl rfl rfl (nz_nw hZ nw_668 rfl) (hts _ w_4) hd_X0_hasWidow ⟨Nat.le_of_ble_eq_true rfl, Nat.le_of_ble_eq_true rfl⟩, (hts _ w_670), (hts _ wp_35)⟩ (mV hK hZ hP hD [1] rfl rfl [.long v1] 1 0 rfl rfl) rfl rfl hl.1 rfl (lv_room (Nat.le_of_ble_eq_true rfl)) dX9_rate_6 ⟨Nat.le_of_ble_eq_true rfl, Nat.le_of_ble_eq_true rfl⟩) (fun r2 u3 H locs hw4 hP hD hS => ?_)
  try dsimp only at hw4
  have hP : va_P G vwCl [(h0, oX9 b), (b 1, oX0 bc 0 0 0 0 0 0 0 0 0 0)] H := hP
  have hD : va_D A [(h0, oX9 b), (b 1, oX0 bc 0 0 0 0 0 0 0 0 0 0)] := hD
  obtain rfl : r2 = 0 := hw4
  refine lv_if_eq (tgt := 23) hx hb dX9_rate_9 (by decide) (fun c5 => ?_) (fun c5 => absurd (by decide) c5)
  refine lv_bipush (v := (-2)) hx hb dX9_rate_23 (by decide) ?_
  exact hret _ _ _ _ (-2) () hP hD hS dX9_rate_25 rfl
set_option maxHeartbeats 4000000 in
set_option maxRecDepth 100000 in
theorem f_X9_feed (l : Launch) (G : va_G) (cI cJ cZ cB cQ : ClassId) (sz : Nat) (h0 : Nat) (b : Nat → Nat) (br : Nat → Nat) (bt : Nat → Nat) (p0 : Int32) (p1 : Int32) (p2 : Int32) (p3 : Int32) (p4 : Int32) : CI l yX9_feed (wl_ yX9_feed cX9_feed 6 (some .int)) ({ frames := 1, cells := 0, slots := 0, locals := 22 } : Room) G (TY cI cJ cZ cB cQ) [.ref h0, .int p0, .int p1, .int p2, .int p3, .int p4] [(h0, oX9 b), (b 0, oX4 br 0 (-1) 0 0 0), (br 2, oX8 bt 0), (bt 0, .inl (cB, 900, .inl (fun _ => 0)))] sz (fun (r : Int32) (u : Int32 × (Nat → Int32)) => r = 20) (fun u : Int32 × (Nat → Int32) => [(h0, oX9 b), (b 0, oX4 br 0 (-1) 0 0 0), (br 2, oX8 bt u.1), (bt 0, .inl (cB, 900, .inl u.2))]) 0 0 := by
  refine CI.go (cc := cX9_feed) (maxL := 6) (ret := (some .int)) (by decide) rfl (Nat.le_of_ble_eq_true rfl) ?_
  intro p e s m below meth c A ls Q hBd hret
  obtain ⟨hx, hb, hr, hml, hts, hown, hlk, hnm, hP, hK, hD, hA, hZ, hl⟩ := hBd
  have hown : s.vm.findClass RX9 = some m.cls := hown
  have hl : lv_has ls 6 [(0, .ref h0), (1, .int p0), (2, .int p1), (3, .int p2), (4, .int p3), (5, .int p4)] := hl
  have hS : va_S A s.heap s.heap [] := va_S.rf
  refine lv_aload_n hx hb dX9_feed_0 rfl (lv_at hl 0 rfl) ?_
  refine va_get (D := G) (ci := 9) (v := .ref (b 0)) (C := RX9) (T := TX9) (N := 11) hx hb hts iG_X9 hown hK hP 0 rfl rfl 0 (by decide) (hts _ w_351) (fun _ h9 => h9) rfl dX9_feed_1 ?_
  refine va_getN (D := G) (ci := 4) (v := .ref (br 2)) (C := RX4) (T := TX4) (N := 7) hx hb hts iG_X4 hown hK hP 1 rfl rfl 2 (by decide) (nz_use hZ nw_168 rfl) (fun _ h9 => h9) rfl dX9_feed_4 ?_
  refine va_getN (D := G) (ci := 8) (v := .int 0) (C := RX8) (T := TX8) (N := 2) hx hb hts iG_X8 hown hK hP 2 rfl rfl 1 (by decide) (nz_use hZ nw_41 rfl) (fun _ h9 => h9) rfl dX9_feed_7 ?_
  refine lv_sipush (v := 880) hx hb dX9_feed_10 (by decide) ?_
  refine lv_icmp_le (tgt := 18) hx hb dX9_feed_13 (by decide) (fun c1 => ?_) (fun c1 => absurd (by decide) c1)
  refine lv_aload_n hx hb dX9_feed_18 rfl (lv_at hl 0 rfl) ?_
  refine va_get (D := G) (ci := 9) (v := .ref (b 0)) (C := RX9) (T := TX9) (N := 11) hx hb hts iG_X9 hown hK hP 0 rfl rfl 0 (by decide) (hts _ w_351) (fun _ h9 => h9) rfl dX9_feed_19 ?_
  refine va_getN (D := G) (ci := 4) (v := .ref (br 2)) (C := RX4) (T := TX4) (N := 7) hx hb hts iG_X4 hown hK hP 1 rfl rfl 2 (by decide) (nz_use hZ nw_168 rfl) (fun _ h9 => h9) rfl dX9_feed_22 ?_
  refine lv_iload_n hx hb dX9_feed_25 rfl (lv_at hl 1 rfl) ?_
  refine k_v (wc := [(br 2, oX8 bt 0), (bt 0, .inl (cB, 900, .inl (fun _ => 0)))]) (wr := [(h0, oX9 b), (b 0, oX4 br 0 (-1) 0 0 0)]) hP hD hS hA [2, 3] [0, 1] rfl rfl rfl (by decide) (va_runVN (As := [.int p0]) (rest := []) ⟨hx, hb, hml, hown, hts⟩ (f_X8_put l G cI cJ cZ cB cQ _ (br 2) bt p0 0 (fun _ => 0) 0 ki_0 (by omega) (by omega)) ⟨va_cnB (host := "WidowRoads") 1 hts (gW w_392) rfl rfl rfl (nz_nw hZ nw_389 rfl) (hts _ w_3) hd_X8_put ⟨Nat.le_of_ble_eq_true rfl, Nat.le_of_ble_eq_true rfl⟩, (hts _ w_391), (hts _ wp_0)⟩ (mV hK hZ hP hD [2, 3] rfl rfl [.int p0] 2 8 rfl rfl) rfl rfl hl.1 rfl (lv_room (Nat.le_of_ble_eq_true rfl)) dX9_feed_26 ⟨Nat.le_of_ble_eq_true rfl, Nat.le_of_ble_eq_true rfl⟩) (fun u3 H locs hw4 hP hD hS => ?_)
  obtain ⟨l15, f16⟩ := u3
  try dsimp only at hw4
  have hP : va_P G vwCl [(h0, oX9 b), (b 0, oX4 br 0 (-1) 0 0 0), (br 2, oX8 bt l15), (bt 0, .inl (cB, 900, .inl f16))] H := hP
  have hD : va_D A [(h0, oX9 b), (b 0, oX4 br 0 (-1) 0 0 0), (br 2, oX8 bt l15), (bt 0, .inl (cB, 900, .inl f16))] := hD
  refine lv_aload_n hx hb dX9_feed_29 rfl (lv_at hl 0 rfl) ?_
  refine va_get (D := G) (ci := 9) (v := .ref (b 0)) (C := RX9) (T := TX9) (N := 11) hx hb hts iG_X9 hown hK hP 0 rfl rfl 0 (by decide) (hts _ w_351) (fun _ h9 => h9) rfl dX9_feed_30 ?_
  refine va_getN (D := G) (ci := 4) (v := .ref (br 2)) (C := RX4) (T := TX4) (N := 7) hx hb hts iG_X4 hown hK hP 1 rfl rfl 2 (by decide) (nz_use hZ nw_168 rfl) (fun _ h9 => h9) rfl dX9_feed_33 ?_
  refine lv_iload_n hx hb dX9_feed_36 rfl (lv_at hl 2 rfl) ?_
  refine k_v (wc := [(br 2, oX8 bt l15), (bt 0, .inl (cB, 900, .inl f16))]) (wr := [(h0, oX9 b), (b 0, oX4 br 0 (-1) 0 0 0)]) hP hD hS hA [2, 3] [0, 1] rfl rfl rfl (by decide) (va_runVN (As := [.int p1]) (rest := []) ⟨hx, hb, hml, hown, hts⟩ (f_X8_put l G cI cJ cZ cB cQ _ (br 2) bt p1 l15 f16 (0 + 4) hw4 (by omega) (by omega)) ⟨va_cnB (host := "WidowRoads") 1 hts (gW w_392) rfl rfl rfl (nz_nw hZ nw_389 rfl) (hts _ w_3) hd_X8_put ⟨Nat.le_of_ble_eq_true rfl, Nat.le_of_ble_eq_true rfl⟩, (hts _ w_391), (hts _ wp_0)⟩ (mV hK hZ hP hD [2, 3] rfl rfl [.int p1] 2 8 rfl rfl) rfl rfl hl.1 rfl (lv_room (Nat.le_of_ble_eq_true rfl)) dX9_feed_37 ⟨Nat.le_of_ble_eq_true rfl, Nat.le_of_ble_eq_true rfl⟩) (fun u8 H locs hw9 hP hD hS => ?_)
  obtain ⟨l110, f111⟩ := u8
  try dsimp only at hw9
  have hP : va_P G vwCl [(h0, oX9 b), (b 0, oX4 br 0 (-1) 0 0 0), (br 2, oX8 bt l110), (bt 0, .inl (cB, 900, .inl f111))] H := hP
  have hD : va_D A [(h0, oX9 b), (b 0, oX4 br 0 (-1) 0 0 0), (br 2, oX8 bt l110), (bt 0, .inl (cB, 900, .inl f111))] := hD
  refine lv_aload_n hx hb dX9_feed_40 rfl (lv_at hl 0 rfl) ?_
  refine va_get (D := G) (ci := 9) (v := .ref (b 0)) (C := RX9) (T := TX9) (N := 11) hx hb hts iG_X9 hown hK hP 0 rfl rfl 0 (by decide) (hts _ w_351) (fun _ h9 => h9) rfl dX9_feed_41 ?_
  refine va_getN (D := G) (ci := 4) (v := .ref (br 2)) (C := RX4) (T := TX4) (N := 7) hx hb hts iG_X4 hown hK hP 1 rfl rfl 2 (by decide) (nz_use hZ nw_168 rfl) (fun _ h9 => h9) rfl dX9_feed_44 ?_
  refine lv_iload_n hx hb dX9_feed_47 rfl (lv_at hl 3 rfl) ?_
  refine k_v (wc := [(br 2, oX8 bt l110), (bt 0, .inl (cB, 900, .inl f111))]) (wr := [(h0, oX9 b), (b 0, oX4 br 0 (-1) 0 0 0)]) hP hD hS hA [2, 3] [0, 1] rfl rfl rfl (by decide) (va_runVN (As := [.int p2]) (rest := []) ⟨hx, hb, hml, hown, hts⟩ (f_X8_put l G cI cJ cZ cB cQ _ (br 2) bt p2 l110 f111 (0 + 4 + 4) hw9 (by omega) (by omega)) ⟨va_cnB (host := "WidowRoads") 1 hts (gW w_392) rfl rfl rfl (nz_nw hZ nw_389 rfl) (hts _ w_3) hd_X8_put ⟨Nat.le_of_ble_eq_true rfl, Nat.le_of_ble_eq_true rfl⟩, (hts _ w_391), (hts _ wp_0)⟩ (mV hK hZ hP hD [2, 3] rfl rfl [.int p2] 2 8 rfl rfl) rfl rfl hl.1 rfl (lv_room (Nat.le_of_ble_eq_true rfl)) dX9_feed_48 ⟨Nat.le_of_ble_eq_true rfl, Nat.le_of_ble_eq_true rfl⟩) (fun u13 H locs hw14 hP hD hS => ?_)
  obtain ⟨l115, f116⟩ := u13
  try dsimp only at hw14
  have hP : va_P G vwCl [(h0, oX9 b), (b 0, oX4 br 0 (-1) 0 0 0), (br 2, oX8 bt l115), (bt 0, .inl (cB, 900, .inl f116))] H := hP
  have hD : va_D A [(h0, oX9 b), (b 0, oX4 br 0 (-1) 0 0 0), (br 2, oX8 bt l115), (bt 0, .inl (cB, 900, .inl f116))] := hD
  refine lv_aload_n hx hb dX9_feed_51 rfl (lv_at hl 0 rfl) ?_
  refine va_get (D := G) (ci := 9) (v := .ref (b 0)) (C := RX9) (T := TX9) (N := 11) hx hb hts iG_X9 hown hK hP 0 rfl rfl 0 (by decide) (hts _ w_351) (fun _ h9 => h9) rfl dX9_feed_52 ?_
  refine va_getN (D := G) (ci := 4) (v := .ref (br 2)) (C := RX4) (T := TX4) (N := 7) hx hb hts iG_X4 hown hK hP 1 rfl rfl 2 (by decide) (nz_use hZ nw_168 rfl) (fun _ h9 => h9) rfl dX9_feed_55 ?_
  refine lv_iload hx hb dX9_feed_58 (lv_at hl 4 rfl) ?_
  refine k_v (wc := [(br 2, oX8 bt l115), (bt 0, .inl (cB, 900, .inl f116))]) (wr := [(h0, oX9 b), (b 0, oX4 br 0 (-1) 0 0 0)]) hP hD hS hA [2, 3] [0, 1] rfl rfl rfl (by decide) (va_runVN (As := [.int p3]) (rest := []) ⟨hx, hb, hml, hown, hts⟩ (f_X8_put l G cI cJ cZ cB cQ _ (br 2) bt p3 l115 f116 (0 + 4 + 4 + 4) hw14 (by omega) (by omega)) ⟨va_cnB (host := "WidowRoads") 1 hts (gW w_392) rfl rfl rfl (nz_nw hZ nw_389 rfl) (hts _ w_3) hd_X8_put ⟨Nat.le_of_ble_eq_true rfl, Nat.le_of_ble_eq_true rfl⟩, (hts _ w_391), (hts _ wp_0)⟩ (mV hK hZ hP hD [2, 3] rfl rfl [.int p3] 2 8 rfl rfl) rfl rfl hl.1 rfl (lv_room (Nat.le_of_ble_eq_true rfl)) dX9_feed_60 ⟨Nat.le_of_ble_eq_true rfl, Nat.le_of_ble_eq_true rfl⟩) (fun u18 H locs hw19 hP hD hS => ?_)
  obtain ⟨l120, f121⟩ := u18
  try dsimp only at hw19
  have hP : va_P G vwCl [(h0, oX9 b), (b 0, oX4 br 0 (-1) 0 0 0), (br 2, oX8 bt l120), (bt 0, .inl (cB, 900, .inl f121))] H := hP
  have hD : va_D A [(h0, oX9 b), (b 0, oX4 br 0 (-1) 0 0 0), (br 2, oX8 bt l120), (bt 0, .inl (cB, 900, .inl f121))] := hD
  refine lv_aload_n hx hb dX9_feed_63 rfl (lv_at hl 0 rfl) ?_
  refine va_get (D := G) (ci := 9) (v := .ref (b 0)) (C := RX9) (T := TX9) (N := 11) hx hb hts iG_X9 hown hK hP 0 rfl rfl 0 (by decide) (hts _ w_351) (fun _ h9 => h9) rfl dX9_feed_64 ?_
  refine va_getN (D := G) (ci := 4) (v := .ref (br 2)) (C := RX4) (T := TX4) (N := 7) hx hb hts iG_X4 hown hK hP 1 rfl rfl 2 (by decide) (nz_use hZ nw_168 rfl) (fun _ h9 => h9) rfl dX9_feed_67 ?_
  refine lv_iload hx hb dX9_feed_70 (lv_at hl 5 rfl) ?_
  refine k_v (wc := [(br 2, oX8 bt l120), (bt 0, .inl (cB, 900, .inl f121))]) (wr := [(h0, oX9 b), (b 0, oX4 br 0 (-1) 0 0 0)]) hP hD hS hA [2, 3] [0, 1] rfl rfl rfl (by decide) (va_runVN (As := [.int p4]) (rest := []) ⟨hx, hb, hml, hown, hts⟩ (f_X8_put l G cI cJ cZ cB cQ _ (br 2) bt p4 l120 f121 (0 + 4 + 4 + 4 + 4) hw19 (by omega) (by omega)) ⟨va_cnB (host := "WidowRoads") 1 hts (gW w_392) rfl rfl rfl (nz_nw hZ nw_389 rfl) (hts _ w_3) hd_X8_put ⟨Nat.le_of_ble_eq_true rfl, Nat.le_of_ble_eq_true rfl⟩, (hts _ w_391), (hts _ wp_0)⟩ (mV hK hZ hP hD [2, 3] rfl rfl [.int p4] 2 8 rfl rfl) rfl rfl hl.1 rfl (lv_room (Nat.le_of_ble_eq_true rfl)) dX9_feed_72 ⟨Nat.le_of_ble_eq_true rfl, Nat.le_of_ble_eq_true rfl⟩) (fun u23 H locs hw24 hP hD hS => ?_)
  obtain ⟨l125, f126⟩ := u23
  try dsimp only at hw24
  have hP : va_P G vwCl [(h0, oX9 b), (b 0, oX4 br 0 (-1) 0 0 0), (br 2, oX8 bt l125), (bt 0, .inl (cB, 900, .inl f126))] H := hP
  have hD : va_D A [(h0, oX9 b), (b 0, oX4 br 0 (-1) 0 0 0), (br 2, oX8 bt l125), (bt 0, .inl (cB, 900, .inl f126))] := hD
  refine lv_aload_n hx hb dX9_feed_75 rfl (lv_at hl 0 rfl) ?_
  refine va_get (D := G) (ci := 9) (v := .ref (b 0)) (C := RX9) (T := TX9) (N := 11) hx hb hts iG_X9 hown hK hP 0 rfl rfl 0 (by decide) (hts _ w_351) (fun _ h9 => h9) rfl dX9_feed_76 ?_
  refine va_getN (D := G) (ci := 4) (v := .ref (br 2)) (C := RX4) (T := TX4) (N := 7) hx hb hts iG_X4 hown hK hP 1 rfl rfl 2 (by decide) (nz_use hZ nw_168 rfl) (fun _ h9 => h9) rfl dX9_feed_79 ?_
  refine va_getN (D := G) (ci := 8) (v := .int l125) (C := RX8) (T := TX8) (N := 2) hx hb hts iG_X8 hown hK hP 2 rfl rfl 1 (by decide) (nz_use hZ nw_41 rfl) (fun _ h9 => h9) rfl dX9_feed_82 ?_
  exact hret _ _ _ _ l125 (l125, f126) hP hD hS dX9_feed_85 ((fa_eq _ _).mpr (by rw [ki_20, hw24]; omega))
set_option maxHeartbeats 4000000 in
set_option maxRecDepth 100000 in
theorem f_X9_end (l : Launch) (G : va_G) (cI cJ cZ cB cQ : ClassId) (sz : Nat) (h0 : Nat) (b : Nat → Nat) (br : Nat → Nat) (bt : Nat → Nat) (p0 : Int32) : CI l yX9_end (wl_ yX9_end cX9_end 2 (some .int)) ({ frames := 0, cells := 0, slots := 0, locals := 0 } : Room) G (TY cI cJ cZ cB cQ) [.ref h0, .int p0] [(h0, oX9 b), (b 0, oX4 br 0 (-1) 0 0 0), (br 2, oX8 bt 0)] sz (fun (r : Int32) (u : Int32) => r = if p0.toInt = 0 then 0 else -1) (fun u : Int32 => [(h0, oX9 b), (b 0, oX4 br 0 (-1) 0 0 0), (br 2, oX8 bt u)]) 0 0 := by
  refine CI.go (cc := cX9_end) (maxL := 2) (ret := (some .int)) (by decide) rfl (Nat.le_of_ble_eq_true rfl) ?_
  intro p e s m below meth c A ls Q hBd hret
  obtain ⟨hx, hb, hr, hml, hts, hown, hlk, hnm, hP, hK, hD, hA, hZ, hl⟩ := hBd
  have hown : s.vm.findClass RX9 = some m.cls := hown
  have hl : lv_has ls 2 [(0, .ref h0), (1, .int p0)] := hl
  have hS : va_S A s.heap s.heap [] := va_S.rf
  refine lv_iload_n hx hb dX9_end_0 rfl (lv_at hl 1 rfl) ?_
  refine lv_if_lt (tgt := 18) hx hb dX9_end_1 (by decide) (fun c1 => ?_) (fun c1 => ?_)
  · have c1 := i_lt rfl ki_0 c1
    refine lv_iconst (v := (-1)) hx hb dX9_end_18 (by decide) ?_
    exact hret _ _ _ _ (-1) 0 hP hD hS dX9_end_19 (by (repeat' split) <;> first | exact rfl | (exfalso; omega))
  · have c1 := i_nlt rfl ki_0 c1
    refine lv_iload_n hx hb dX9_end_4 rfl (lv_at hl 1 rfl) ?_
    refine lv_aload_n hx hb dX9_end_5 rfl (lv_at hl 0 rfl) ?_
    refine va_get (D := G) (ci := 9) (v := .ref (b 0)) (C := RX9) (T := TX9) (N := 11) hx hb hts iG_X9 hown hK hP 0 rfl rfl 0 (by decide) (hts _ w_351) (fun _ h9 => h9) rfl dX9_end_6 ?_
    refine va_getN (D := G) (ci := 4) (v := .ref (br 2)) (C := RX4) (T := TX4) (N := 7) hx hb hts iG_X4 hown hK hP 1 rfl rfl 2 (by decide) (nz_use hZ nw_168 rfl) (fun _ h9 => h9) rfl dX9_end_9 ?_
    refine va_getN (D := G) (ci := 8) (v := .int 0) (C := RX8) (T := TX8) (N := 2) hx hb hts iG_X8 hown hK hP 2 rfl rfl 1 (by decide) (nz_use hZ nw_41 rfl) (fun _ h9 => h9) rfl dX9_end_12 ?_
    refine lv_icmp_le (tgt := 20) hx hb dX9_end_15 (by decide) (fun c2 => ?_) (fun c2 => ?_)
    · have c2 := i_le rfl ki_0 c2
      refine lv_aload_n hx hb dX9_end_20 rfl (lv_at hl 0 rfl) ?_
      refine va_get (D := G) (ci := 9) (v := .ref (b 0)) (C := RX9) (T := TX9) (N := 11) hx hb hts iG_X9 hown hK hP 0 rfl rfl 0 (by decide) (hts _ w_351) (fun _ h9 => h9) rfl dX9_end_21 ?_
      refine va_getN (D := G) (ci := 4) (v := .ref (br 2)) (C := RX4) (T := TX4) (N := 7) hx hb hts iG_X4 hown hK hP 1 rfl rfl 2 (by decide) (nz_use hZ nw_168 rfl) (fun _ h9 => h9) rfl dX9_end_24 ?_
      refine lv_iload_n hx hb dX9_end_27 rfl (lv_at hl 1 rfl) ?_
      refine va_putN (D := G) (ci := 8) (v := .int p0) (ty := .int) (C := RX8) (T := TX8) (N := 2) hx hb hts iG_X8 tyX8 tyX8_ok nmX8 hown hK hP hD hS 2 rfl rfl 1 (by decide) (nz_use hZ nw_41 rfl) (fun _ h9 => h9) rfl (by decide +kernel) rfl rfl (Nat.le_of_ble_eq_true rfl) dX9_end_28 (fun H locs hP hD hS => ?_)
      have hP : va_P G vwCl [(h0, oX9 b), (b 0, oX4 br 0 (-1) 0 0 0), (br 2, oX8 bt p0)] H := hP
      have hD : va_D A [(h0, oX9 b), (b 0, oX4 br 0 (-1) 0 0 0), (br 2, oX8 bt p0)] := hD
      refine lv_iload_n hx hb dX9_end_31 rfl (lv_at hl 1 rfl) ?_
      exact hret _ _ _ _ p0 p0 hP hD hS dX9_end_32 (by (repeat' split) <;> first | exact ((fa_eq _ _).mpr (by rw [ki_0]; omega)) | (exfalso; omega))
    · have c2 := i_nle rfl ki_0 c2
      refine lv_iconst (v := (-1)) hx hb dX9_end_18 (by decide) ?_
      exact hret _ _ _ _ (-1) 0 hP hD hS dX9_end_19 (by (repeat' split) <;> first | exact rfl | (exfalso; omega))
set_option maxHeartbeats 4000000 in
set_option maxRecDepth 100000 in
theorem f_X9_fault (l : Launch) (G : va_G) (cI cJ cZ cB cQ : ClassId) (sz : Nat) (h0 : Nat) (b : Nat → Nat) (br : Nat → Nat) (p0 : Int32) : CI l yX9_fault (wl_ yX9_fault cX9_fault 2 (some .int)) ({ frames := 0, cells := 0, slots := 0, locals := 0 } : Room) G (TY cI cJ cZ cB cQ) [.ref h0, .int p0] [(h0, oX9 b), (b 0, oX4 br 0 (-1) 0 0 0)] sz (fun (r : Int32) (u : Unit) => r = if p0.toInt = 0 then 0 else -1) (fun _ : Unit => [(h0, oX9 b), (b 0, oX4 br 0 (-1) 0 0 0)]) 0 0 := by
  refine CI.go (cc := cX9_fault) (maxL := 2) (ret := (some .int)) (by decide) rfl (Nat.le_of_ble_eq_true rfl) ?_
  intro p e s m below meth c A ls Q hBd hret
  obtain ⟨hx, hb, hr, hml, hts, hown, hlk, hnm, hP, hK, hD, hA, hZ, hl⟩ := hBd
  have hown : s.vm.findClass RX9 = some m.cls := hown
  have hl : lv_has ls 2 [(0, .ref h0), (1, .int p0)] := hl
  have hS : va_S A s.heap s.heap [] := va_S.rf
  refine lv_iload_n hx hb dX9_fault_0 rfl (lv_at hl 1 rfl) ?_
  refine lv_if_ne (tgt := 12) hx hb dX9_fault_1 (by decide) (fun c1 => ?_) (fun c1 => ?_)
  · have c1 := i_ne rfl ki_0 c1
    refine lv_iload_n hx hb dX9_fault_12 rfl (lv_at hl 1 rfl) ?_
    refine lv_iconst (v := 1) hx hb dX9_fault_13 (by decide) ?_
    refine lv_icmp_ne (tgt := 27) hx hb dX9_fault_14 (by decide) (fun c2 => ?_) (fun c2 => ?_)
    · have c2 := i_ne rfl ki_1 c2
      refine lv_iconst (v := (-1)) hx hb dX9_fault_27 (by decide) ?_
      exact hret _ _ _ _ (-1) () hP hD hS dX9_fault_28 (by (repeat' split) <;> first | exact rfl | (exfalso; omega))
    · have c2 := i_eq rfl ki_1 c2
      refine lv_aload_n hx hb dX9_fault_17 rfl (lv_at hl 0 rfl) ?_
      refine va_get (D := G) (ci := 9) (v := .ref (b 0)) (C := RX9) (T := TX9) (N := 11) hx hb hts iG_X9 hown hK hP 0 rfl rfl 0 (by decide) (hts _ w_351) (fun _ h9 => h9) rfl dX9_fault_18 ?_
      refine va_getN (D := G) (ci := 4) (v := .int (-1)) (C := RX4) (T := TX4) (N := 7) hx hb hts iG_X4 hown hK hP 1 rfl rfl 1 (by decide) (nz_use hZ nw_166 rfl) (fun _ h9 => h9) rfl dX9_fault_21 ?_
      refine lv_goto (tgt := 28) hx hb dX9_fault_24 (by decide) ?_
      exact hret _ _ _ _ (-1) () hP hD hS dX9_fault_28 (by (repeat' split) <;> first | exact rfl | (exfalso; omega))
  · have c1 := i_eq rfl ki_0 c1
    refine lv_aload_n hx hb dX9_fault_4 rfl (lv_at hl 0 rfl) ?_
    refine va_get (D := G) (ci := 9) (v := .ref (b 0)) (C := RX9) (T := TX9) (N := 11) hx hb hts iG_X9 hown hK hP 0 rfl rfl 0 (by decide) (hts _ w_351) (fun _ h9 => h9) rfl dX9_fault_5 ?_
    refine va_getN (D := G) (ci := 4) (v := .int 0) (C := RX4) (T := TX4) (N := 7) hx hb hts iG_X4 hown hK hP 1 rfl rfl 0 (by decide) (nz_use hZ nw_164 rfl) (fun _ h9 => h9) rfl dX9_fault_8 ?_
    exact hret _ _ _ _ 0 () hP hD hS dX9_fault_11 (by (repeat' split) <;> first | exact rfl | (exfalso; omega))
set_option maxHeartbeats 4000000 in
set_option maxRecDepth 100000 in
theorem f_X9_walkAnew (l : Launch) (G : va_G) (cI cJ cZ cB cQ : ClassId) (sz : Nat) (h0 : Nat) (b : Nat → Nat) (bc : Nat → Nat) (bn : Nat → Nat) (be : Nat → Nat) : CV l yX9_walkAnew (wl_ yX9_walkAnew cX9_walkAnew 1 none) ({ frames := 3, cells := 0, slots := 0, locals := 69 } : Room) G (TY cI cJ cZ cB cQ) [.ref h0] [(h0, oX9 b), (b 1, oX0 bc 0 0 0 0 0 0 0 0 0 0), (b 3, oX7 z0 0 0 0 0 0 0), (b 4, oX6 bn 0 0), (bn 1, .inl (cI, 7, .inl (fun _ => 0))), (bn 2, .inl (cI, 7, .inl (fun _ => 0))), (bn 3, .inl (cJ, 7, .inr (.inl (fun _ => 0)))), (bn 4, .inl (cI, 7, .inl (fun _ => 0))), (bn 5, .inl (cI, 6, .inl (fun _ => 0))), (bn 6, .inl (cI, 78, .inl (fun _ => 0))), (bn 7, .inl (cJ, 13, .inr (.inl (fun _ => 0)))), (bn 8, .inl (cJ, 13, .inr (.inl (fun _ => 0)))), (bn 9, .inl (cJ, 13, .inr (.inl (fun _ => 0)))), (b 6, oX1 be 0)] sz (fun (u : (Nat → Int32) × (Nat → Int32)) => True) (fun u : (Nat → Int32) × (Nat → Int32) => [(h0, oX9 b), (b 1, oX0 bc 0 0 0 0 0 0 0 0 0 0), (b 3, oX7 z0 0 0 0 (-1) (-1) (-1)), (b 4, oX6 bn 0 0), (bn 1, .inl (cI, 7, .inl u.1)), (bn 2, .inl (cI, 7, .inl (fun _ => 0))), (bn 3, .inl (cJ, 7, .inr (.inl (fun _ => 0)))), (bn 4, .inl (cI, 7, .inl (fun _ => 0))), (bn 5, .inl (cI, 6, .inl (fun _ => 0))), (bn 6, .inl (cI, 78, .inl u.2)), (bn 7, .inl (cJ, 13, .inr (.inl (fun _ => 0)))), (bn 8, .inl (cJ, 13, .inr (.inl (fun _ => 0)))), (bn 9, .inl (cJ, 13, .inr (.inl (fun _ => 0)))), (b 6, oX1 be 0)]) 0 0 := by
  refine CV.go (cc := cX9_walkAnew) (maxL := 1) (ret := none) (by decide) rfl (Nat.le_of_ble_eq_true rfl) ?_
  intro p e s m below meth c A ls Q hBd hret
  obtain ⟨hx, hb, hr, hml, hts, hown, hlk, hnm, hP, hK, hD, hA, hZ, hl⟩ := hBd
  have hown : s.vm.findClass RX9 = some m.cls := hown
  have hl : lv_has ls 1 [(0, .ref h0)] := hl
  have hS : va_S A s.heap s.heap [] := va_S.rf
  refine lv_aload_n hx hb dX9_walkAnew_0 rfl (lv_at hl 0 rfl) ?_
  refine va_get (D := G) (ci := 9) (v := .ref (b 3)) (C := RX9) (T := TX9) (N := 11) hx hb hts iG_X9 hown hK hP 0 rfl rfl 3 (by decide) (hts _ w_354) (fun _ h9 => h9) rfl dX9_walkAnew_1 ?_
  refine lv_aload_n hx hb dX9_walkAnew_4 rfl (lv_at hl 0 rfl) ?_
  refine va_get (D := G) (ci := 9) (v := .ref (b 1)) (C := RX9) (T := TX9) (N := 11) hx hb hts iG_X9 hown hK hP 0 rfl rfl 1 (by decide) (hts _ w_352) (fun _ h9 => h9) rfl dX9_walkAnew_5 ?_
  refine k_v (wc := [(b 3, oX7 z0 0 0 0 0 0 0), (b 1, oX0 bc 0 0 0 0 0 0 0 0 0 0)]) (wr := [(h0, oX9 b), (b 4, oX6 bn 0 0), (bn 1, .inl (cI, 7, .inl (fun _ => 0))), (bn 2, .inl (cI, 7, .inl (fun _ => 0))), (bn 3, .inl (cJ, 7, .inr (.inl (fun _ => 0)))), (bn 4, .inl (cI, 7, .inl (fun _ => 0))), (bn 5, .inl (cI, 6, .inl (fun _ => 0))), (bn 6, .inl (cI, 78, .inl (fun _ => 0))), (bn 7, .inl (cJ, 13, .inr (.inl (fun _ => 0)))), (bn 8, .inl (cJ, 13, .inr (.inl (fun _ => 0)))), (bn 9, .inl (cJ, 13, .inr (.inl (fun _ => 0)))), (b 6, oX1 be 0)]) hP hD hS hA [2, 1] [0, 3, 4, 5, 6, 7, 8, 9, 10, 11, 12, 13] rfl rfl rfl (by decide) (va_runVN (As := [.ref (b 1)]) (rest := []) ⟨hx, hb, hml, hown, hts⟩ (f_X7_asNow l G cI cJ cZ cB cQ _ (b 3) (b 1) bc) ⟨va_cnB (host := "WidowRoads") 1 hts (gW w_576) rfl rfl rfl (nz_nw hZ nw_573 rfl) (hts _ w_5) hd_X7_asNow ⟨Nat.le_of_ble_eq_true rfl, Nat.le_of_ble_eq_true rfl⟩, (hts _ w_575), (hts _ wp_22)⟩ (mV hK hZ hP hD [2, 1] rfl rfl [.ref (b 1)] 2 7 rfl rfl) rfl rfl hl.1 rfl (lv_room (Nat.le_of_ble_eq_true rfl)) dX9_walkAnew_8 ⟨Nat.le_of_ble_eq_true rfl, Nat.le_of_ble_eq_true rfl⟩) (fun u2 H locs hw3 hP hD hS => ?_)
  have hP : va_P G vwCl [(h0, oX9 b), (b 4, oX6 bn 0 0), (bn 1, .inl (cI, 7, .inl (fun _ => 0))), (bn 2, .inl (cI, 7, .inl (fun _ => 0))), (bn 3, .inl (cJ, 7, .inr (.inl (fun _ => 0)))), (bn 4, .inl (cI, 7, .inl (fun _ => 0))), (bn 5, .inl (cI, 6, .inl (fun _ => 0))), (bn 6, .inl (cI, 78, .inl (fun _ => 0))), (bn 7, .inl (cJ, 13, .inr (.inl (fun _ => 0)))), (bn 8, .inl (cJ, 13, .inr (.inl (fun _ => 0)))), (bn 9, .inl (cJ, 13, .inr (.inl (fun _ => 0)))), (b 6, oX1 be 0), (b 3, oX7 z0 0 0 0 (-1) (-1) (-1)), (b 1, oX0 bc 0 0 0 0 0 0 0 0 0 0)] H := hP
  have hD : va_D A [(h0, oX9 b), (b 4, oX6 bn 0 0), (bn 1, .inl (cI, 7, .inl (fun _ => 0))), (bn 2, .inl (cI, 7, .inl (fun _ => 0))), (bn 3, .inl (cJ, 7, .inr (.inl (fun _ => 0)))), (bn 4, .inl (cI, 7, .inl (fun _ => 0))), (bn 5, .inl (cI, 6, .inl (fun _ => 0))), (bn 6, .inl (cI, 78, .inl (fun _ => 0))), (bn 7, .inl (cJ, 13, .inr (.inl (fun _ => 0)))), (bn 8, .inl (cJ, 13, .inr (.inl (fun _ => 0)))), (bn 9, .inl (cJ, 13, .inr (.inl (fun _ => 0)))), (b 6, oX1 be 0), (b 3, oX7 z0 0 0 0 (-1) (-1) (-1)), (b 1, oX0 bc 0 0 0 0 0 0 0 0 0 0)] := hD
  refine lv_aload_n hx hb dX9_walkAnew_11 rfl (lv_at hl 0 rfl) ?_
  refine va_get (D := G) (ci := 9) (v := .ref (b 4)) (C := RX9) (T := TX9) (N := 11) hx hb hts iG_X9 hown hK hP 0 rfl rfl 4 (by decide) (hts _ w_355) (fun _ h9 => h9) rfl dX9_walkAnew_12 ?_
  refine lv_aload_n hx hb dX9_walkAnew_15 rfl (lv_at hl 0 rfl) ?_
  refine va_get (D := G) (ci := 9) (v := .ref (b 1)) (C := RX9) (T := TX9) (N := 11) hx hb hts iG_X9 hown hK hP 0 rfl rfl 1 (by decide) (hts _ w_352) (fun _ h9 => h9) rfl dX9_walkAnew_16 ?_
  refine lv_aload_n hx hb dX9_walkAnew_19 rfl (lv_at hl 0 rfl) ?_
  refine va_get (D := G) (ci := 9) (v := .ref (b 3)) (C := RX9) (T := TX9) (N := 11) hx hb hts iG_X9 hown hK hP 0 rfl rfl 3 (by decide) (hts _ w_354) (fun _ h9 => h9) rfl dX9_walkAnew_20 ?_
  refine k_v (wc := [(b 4, oX6 bn 0 0), (bn 1, .inl (cI, 7, .inl (fun _ => 0))), (bn 2, .inl (cI, 7, .inl (fun _ => 0))), (bn 3, .inl (cJ, 7, .inr (.inl (fun _ => 0)))), (bn 4, .inl (cI, 7, .inl (fun _ => 0))), (bn 5, .inl (cI, 6, .inl (fun _ => 0))), (bn 6, .inl (cI, 78, .inl (fun _ => 0))), (bn 7, .inl (cJ, 13, .inr (.inl (fun _ => 0)))), (bn 8, .inl (cJ, 13, .inr (.inl (fun _ => 0)))), (bn 9, .inl (cJ, 13, .inr (.inl (fun _ => 0)))), (b 1, oX0 bc 0 0 0 0 0 0 0 0 0 0)]) (wr := [(h0, oX9 b), (b 6, oX1 be 0), (b 3, oX7 z0 0 0 0 (-1) (-1) (-1))]) hP hD hS hA [1, 2, 3, 4, 5, 6, 7, 8, 9, 10, 13] [0, 11, 12] rfl rfl rfl (by decide) (va_runVN (As := [.ref (b 1), .ref (b 3)]) (rest := []) ⟨hx, hb, hml, hown, hts⟩ (f_X6_tell l G cI cJ cZ cB cQ _ (b 4) bn (b 1) bc (b 3)) ⟨va_cnB (host := "WidowRoads") 2 hts (gW w_585) rfl rfl rfl (nz_nw hZ nw_582 rfl) (hts _ w_6) hd_X6_tell ⟨Nat.le_of_ble_eq_true rfl, Nat.le_of_ble_eq_true rfl⟩, (hts _ w_584), (hts _ wp_24)⟩ (mV hK hZ hP hD [1, 2, 3, 4, 5, 6, 7, 8, 9, 10, 13] rfl rfl [.ref (b 1), .ref (b 3)] 1 6 rfl rfl) rfl rfl hl.1 rfl (lv_room (Nat.le_of_ble_eq_true rfl)) dX9_walkAnew_23 ⟨Nat.le_of_ble_eq_true rfl, Nat.le_of_ble_eq_true rfl⟩) (fun u5 H locs hw6 hP hD hS => ?_)
  obtain ⟨f17, f68⟩ := u5
  have hP : va_P G vwCl [(h0, oX9 b), (b 6, oX1 be 0), (b 3, oX7 z0 0 0 0 (-1) (-1) (-1)), (b 4, oX6 bn 0 0), (bn 1, .inl (cI, 7, .inl f17)), (bn 2, .inl (cI, 7, .inl (fun _ => 0))), (bn 3, .inl (cJ, 7, .inr (.inl (fun _ => 0)))), (bn 4, .inl (cI, 7, .inl (fun _ => 0))), (bn 5, .inl (cI, 6, .inl (fun _ => 0))), (bn 6, .inl (cI, 78, .inl f68)), (bn 7, .inl (cJ, 13, .inr (.inl (fun _ => 0)))), (bn 8, .inl (cJ, 13, .inr (.inl (fun _ => 0)))), (bn 9, .inl (cJ, 13, .inr (.inl (fun _ => 0)))), (b 1, oX0 bc 0 0 0 0 0 0 0 0 0 0)] H := hP
  have hD : va_D A [(h0, oX9 b), (b 6, oX1 be 0), (b 3, oX7 z0 0 0 0 (-1) (-1) (-1)), (b 4, oX6 bn 0 0), (bn 1, .inl (cI, 7, .inl f17)), (bn 2, .inl (cI, 7, .inl (fun _ => 0))), (bn 3, .inl (cJ, 7, .inr (.inl (fun _ => 0)))), (bn 4, .inl (cI, 7, .inl (fun _ => 0))), (bn 5, .inl (cI, 6, .inl (fun _ => 0))), (bn 6, .inl (cI, 78, .inl f68)), (bn 7, .inl (cJ, 13, .inr (.inl (fun _ => 0)))), (bn 8, .inl (cJ, 13, .inr (.inl (fun _ => 0)))), (bn 9, .inl (cJ, 13, .inr (.inl (fun _ => 0)))), (b 1, oX0 bc 0 0 0 0 0 0 0 0 0 0)] := hD
  refine lv_aload_n hx hb dX9_walkAnew_26 rfl (lv_at hl 0 rfl) ?_
  refine va_get (D := G) (ci := 9) (v := .ref (b 6)) (C := RX9) (T := TX9) (N := 11) hx hb hts iG_X9 hown hK hP 0 rfl rfl 6 (by decide) (hts _ w_357) (fun _ h9 => h9) rfl dX9_walkAnew_27 ?_
  refine lv_iconst (v := 0) hx hb dX9_walkAnew_30 (by decide) ?_
  refine va_putN (D := G) (ci := 1) (v := .int 0) (ty := .boolean) (C := RX1) (T := TX1) (N := 3) hx hb hts iG_X1 tyX1 tyX1_ok nmX1 hown hK hP hD hS 1 rfl rfl 2 (by decide) (nz_use hZ nw_292 rfl) (fun _ h9 => h9) rfl (by decide +kernel) rfl rfl (Nat.le_of_ble_eq_true rfl) dX9_walkAnew_31 (fun H locs hP hD hS => ?_)
  have hP : va_P G vwCl [(h0, oX9 b), (b 6, oX1 be 0), (b 3, oX7 z0 0 0 0 (-1) (-1) (-1)), (b 4, oX6 bn 0 0), (bn 1, .inl (cI, 7, .inl f17)), (bn 2, .inl (cI, 7, .inl (fun _ => 0))), (bn 3, .inl (cJ, 7, .inr (.inl (fun _ => 0)))), (bn 4, .inl (cI, 7, .inl (fun _ => 0))), (bn 5, .inl (cI, 6, .inl (fun _ => 0))), (bn 6, .inl (cI, 78, .inl f68)), (bn 7, .inl (cJ, 13, .inr (.inl (fun _ => 0)))), (bn 8, .inl (cJ, 13, .inr (.inl (fun _ => 0)))), (bn 9, .inl (cJ, 13, .inr (.inl (fun _ => 0)))), (b 1, oX0 bc 0 0 0 0 0 0 0 0 0 0)] H := hP
  have hD : va_D A [(h0, oX9 b), (b 6, oX1 be 0), (b 3, oX7 z0 0 0 0 (-1) (-1) (-1)), (b 4, oX6 bn 0 0), (bn 1, .inl (cI, 7, .inl f17)), (bn 2, .inl (cI, 7, .inl (fun _ => 0))), (bn 3, .inl (cJ, 7, .inr (.inl (fun _ => 0)))), (bn 4, .inl (cI, 7, .inl (fun _ => 0))), (bn 5, .inl (cI, 6, .inl (fun _ => 0))), (bn 6, .inl (cI, 78, .inl f68)), (bn 7, .inl (cJ, 13, .inr (.inl (fun _ => 0)))), (bn 8, .inl (cJ, 13, .inr (.inl (fun _ => 0)))), (bn 9, .inl (cJ, 13, .inr (.inl (fun _ => 0)))), (b 1, oX0 bc 0 0 0 0 0 0 0 0 0 0)] := hD
  exact hret _ _ _ _ (f17, f68) (hP.sub (ws' := [(h0, oX9 b), (b 1, oX0 bc 0 0 0 0 0 0 0 0 0 0), (b 3, oX7 z0 0 0 0 (-1) (-1) (-1)), (b 4, oX6 bn 0 0), (bn 1, .inl (cI, 7, .inl f17)), (bn 2, .inl (cI, 7, .inl (fun _ => 0))), (bn 3, .inl (cJ, 7, .inr (.inl (fun _ => 0)))), (bn 4, .inl (cI, 7, .inl (fun _ => 0))), (bn 5, .inl (cI, 6, .inl (fun _ => 0))), (bn 6, .inl (cI, 78, .inl f68)), (bn 7, .inl (cJ, 13, .inr (.inl (fun _ => 0)))), (bn 8, .inl (cJ, 13, .inr (.inl (fun _ => 0)))), (bn 9, .inl (cJ, 13, .inr (.inl (fun _ => 0)))), (b 6, oX1 be 0)]) [0, 13, 2, 3, 4, 5, 6, 7, 8, 9, 10, 11, 12, 1] rfl) (hD.sub (ws' := [(h0, oX9 b), (b 1, oX0 bc 0 0 0 0 0 0 0 0 0 0), (b 3, oX7 z0 0 0 0 (-1) (-1) (-1)), (b 4, oX6 bn 0 0), (bn 1, .inl (cI, 7, .inl f17)), (bn 2, .inl (cI, 7, .inl (fun _ => 0))), (bn 3, .inl (cJ, 7, .inr (.inl (fun _ => 0)))), (bn 4, .inl (cI, 7, .inl (fun _ => 0))), (bn 5, .inl (cI, 6, .inl (fun _ => 0))), (bn 6, .inl (cI, 78, .inl f68)), (bn 7, .inl (cJ, 13, .inr (.inl (fun _ => 0)))), (bn 8, .inl (cJ, 13, .inr (.inl (fun _ => 0)))), (bn 9, .inl (cJ, 13, .inr (.inl (fun _ => 0)))), (b 6, oX1 be 0)]) [0, 13, 2, 3, 4, 5, 6, 7, 8, 9, 10, 11, 12, 1] rfl rfl) hS dX9_walkAnew_34 trivial
set_option maxHeartbeats 4000000 in
set_option maxRecDepth 100000 in
theorem f_X9_colony (l : Launch) (G : va_G) (cI cJ cZ cB cQ : ClassId) (sz : Nat) (h0 : Nat) (b : Nat → Nat) (br : Nat → Nat) (bt : Nat → Nat) (bi : Nat → Nat) (bc : Nat → Nat) (bn : Nat → Nat) (be : Nat → Nat) : CI l yX9_colony (wl_ yX9_colony cX9_colony 1 (some .int)) ({ frames := 4, cells := 0, slots := 0, locals := 89 } : Room) G (TY cI cJ cZ cB cQ) [.ref h0] [(h0, oX9 b), (b 0, oX4 br 0 (-1) 0 0 0), (br 2, oX8 bt 0), (br 3, oX0 bi 0 0 0 0 0 0 0 0 0 0), (bi 10, .inl (cI, 12, .inl (fun _ => 0))), (bi 11, .inl (cI, 6, .inl (fun _ => 0))), (bi 12, .inl (cI, 7, .inl (fun _ => 0))), (bi 13, .inl (cI, 7, .inl (fun _ => 0))), (bi 14, .inl (cI, 7, .inl (fun _ => 0))), (bi 15, .inl (cI, 7, .inl (fun _ => 0))), (bi 16, .inl (cI, 7, .inl (fun _ => 0))), (bi 17, .inl (cI, 56, .inl (fun _ => 0))), (bi 18, .inl (cI, 30, .inl (fun _ => 0))), (b 1, oX0 bc 0 0 0 0 0 0 0 0 0 0), (bc 10, .inl (cI, 12, .inl (fun _ => 0))), (bc 11, .inl (cI, 6, .inl (fun _ => 0))), (bc 12, .inl (cI, 7, .inl (fun _ => 0))), (bc 13, .inl (cI, 7, .inl (fun _ => 0))), (bc 14, .inl (cI, 7, .inl (fun _ => 0))), (bc 15, .inl (cI, 7, .inl (fun _ => 0))), (bc 16, .inl (cI, 7, .inl (fun _ => 0))), (bc 17, .inl (cI, 56, .inl (fun _ => 0))), (bc 18, .inl (cI, 30, .inl (fun _ => 0))), (b 3, oX7 z0 0 0 0 0 0 0), (b 4, oX6 bn 0 0), (bn 1, .inl (cI, 7, .inl (fun _ => 0))), (bn 2, .inl (cI, 7, .inl (fun _ => 0))), (bn 3, .inl (cJ, 7, .inr (.inl (fun _ => 0)))), (bn 4, .inl (cI, 7, .inl (fun _ => 0))), (bn 5, .inl (cI, 6, .inl (fun _ => 0))), (bn 6, .inl (cI, 78, .inl (fun _ => 0))), (bn 7, .inl (cJ, 13, .inr (.inl (fun _ => 0)))), (bn 8, .inl (cJ, 13, .inr (.inl (fun _ => 0)))), (bn 9, .inl (cJ, 13, .inr (.inl (fun _ => 0)))), (b 6, oX1 be 0)] sz (fun (r : Int32) (u : (Nat → Int32) × (Nat → Int32)) => r = 0) (fun u : (Nat → Int32) × (Nat → Int32) => [(h0, oX9 b), (b 0, oX4 br 0 (-1) 0 0 1), (br 2, oX8 bt 0), (br 3, oX0 bi 0 0 0 0 0 0 0 0 0 0), (bi 10, .inl (cI, 12, .inl (fun _ => 0))), (bi 11, .inl (cI, 6, .inl (fun _ => 0))), (bi 12, .inl (cI, 7, .inl (fun _ => 0))), (bi 13, .inl (cI, 7, .inl (fun _ => 0))), (bi 14, .inl (cI, 7, .inl (fun _ => 0))), (bi 15, .inl (cI, 7, .inl (fun _ => 0))), (bi 16, .inl (cI, 7, .inl (fun _ => 0))), (bi 17, .inl (cI, 56, .inl (fun _ => 0))), (bi 18, .inl (cI, 30, .inl (fun _ => 0))), (b 1, oX0 bc 0 0 0 0 0 0 0 0 0 0), (bc 10, .inl (cI, 12, .inl (fun _ => 0))), (bc 11, .inl (cI, 6, .inl (fun _ => 0))), (bc 12, .inl (cI, 7, .inl (fun _ => 0))), (bc 13, .inl (cI, 7, .inl (fun _ => 0))), (bc 14, .inl (cI, 7, .inl (fun _ => 0))), (bc 15, .inl (cI, 7, .inl (fun _ => 0))), (bc 16, .inl (cI, 7, .inl (fun _ => 0))), (bc 17, .inl (cI, 56, .inl (fun _ => 0))), (bc 18, .inl (cI, 30, .inl (fun _ => 0))), (b 3, oX7 z0 0 0 0 (-1) (-1) (-1)), (b 4, oX6 bn 0 0), (bn 1, .inl (cI, 7, .inl u.1)), (bn 2, .inl (cI, 7, .inl (fun _ => 0))), (bn 3, .inl (cJ, 7, .inr (.inl (fun _ => 0)))), (bn 4, .inl (cI, 7, .inl (fun _ => 0))), (bn 5, .inl (cI, 6, .inl (fun _ => 0))), (bn 6, .inl (cI, 78, .inl u.2)), (bn 7, .inl (cJ, 13, .inr (.inl (fun _ => 0)))), (bn 8, .inl (cJ, 13, .inr (.inl (fun _ => 0)))), (bn 9, .inl (cJ, 13, .inr (.inl (fun _ => 0)))), (b 6, oX1 be 0)]) 0 0 := by
  refine CI.go (cc := cX9_colony) (maxL := 1) (ret := (some .int)) (by decide) rfl (Nat.le_of_ble_eq_true rfl) ?_
  intro p e s m below meth c A ls Q hBd hret
  obtain ⟨hx, hb, hr, hml, hts, hown, hlk, hnm, hP, hK, hD, hA, hZ, hl⟩ := hBd
  have hown : s.vm.findClass RX9 = some m.cls := hown
  have hl : lv_has ls 1 [(0, .ref h0)] := hl
  have hS : va_S A s.heap s.heap [] := va_S.rf
  refine lv_aload_n hx hb dX9_colony_0 rfl (lv_at hl 0 rfl) ?_
  refine va_get (D := G) (ci := 9) (v := .ref (b 0)) (C := RX9) (T := TX9) (N := 11) hx hb hts iG_X9 hown hK hP 0 rfl rfl 0 (by decide) (hts _ w_351) (fun _ h9 => h9) rfl dX9_colony_1 ?_
  refine k_v (wc := [(b 0, oX4 br 0 (-1) 0 0 0), (br 2, oX8 bt 0), (br 3, oX0 bi 0 0 0 0 0 0 0 0 0 0)]) (wr := [(h0, oX9 b), (bi 10, .inl (cI, 12, .inl (fun _ => 0))), (bi 11, .inl (cI, 6, .inl (fun _ => 0))), (bi 12, .inl (cI, 7, .inl (fun _ => 0))), (bi 13, .inl (cI, 7, .inl (fun _ => 0))), (bi 14, .inl (cI, 7, .inl (fun _ => 0))), (bi 15, .inl (cI, 7, .inl (fun _ => 0))), (bi 16, .inl (cI, 7, .inl (fun _ => 0))), (bi 17, .inl (cI, 56, .inl (fun _ => 0))), (bi 18, .inl (cI, 30, .inl (fun _ => 0))), (b 1, oX0 bc 0 0 0 0 0 0 0 0 0 0), (bc 10, .inl (cI, 12, .inl (fun _ => 0))), (bc 11, .inl (cI, 6, .inl (fun _ => 0))), (bc 12, .inl (cI, 7, .inl (fun _ => 0))), (bc 13, .inl (cI, 7, .inl (fun _ => 0))), (bc 14, .inl (cI, 7, .inl (fun _ => 0))), (bc 15, .inl (cI, 7, .inl (fun _ => 0))), (bc 16, .inl (cI, 7, .inl (fun _ => 0))), (bc 17, .inl (cI, 56, .inl (fun _ => 0))), (bc 18, .inl (cI, 30, .inl (fun _ => 0))), (b 3, oX7 z0 0 0 0 0 0 0), (b 4, oX6 bn 0 0), (bn 1, .inl (cI, 7, .inl (fun _ => 0))), (bn 2, .inl (cI, 7, .inl (fun _ => 0))), (bn 3, .inl (cJ, 7, .inr (.inl (fun _ => 0)))), (bn 4, .inl (cI, 7, .inl (fun _ => 0))), (bn 5, .inl (cI, 6, .inl (fun _ => 0))), (bn 6, .inl (cI, 78, .inl (fun _ => 0))), (bn 7, .inl (cJ, 13, .inr (.inl (fun _ => 0)))), (bn 8, .inl (cJ, 13, .inr (.inl (fun _ => 0)))), (bn 9, .inl (cJ, 13, .inr (.inl (fun _ => 0)))), (b 6, oX1 be 0)]) hP hD hS hA [1, 2, 3] [0, 4, 5, 6, 7, 8, 9, 10, 11, 12, 13, 14, 15, 16, 17, 18, 19, 20, 21, 22, 23, 24, 25, 26, 27, 28, 29, 30, 31, 32, 33, 34] rfl rfl rfl (by decide) (va_runVN (As := []) (rest := []) ⟨hx, hb, hml, hown, hts⟩ (f_X4_read l G cI cJ cZ cB cQ _ (b 0) br bt bi) ⟨va_cnB (host := "WidowRoads") 0 hts (gW w_404) rfl rfl rfl (nz_nw hZ nw_401 rfl) (hts _ w_2) hd_X4_read ⟨Nat.le_of_ble_eq_true rfl, Nat.le_of_ble_eq_true rfl⟩, (hts _ w_403), (hts _ wp_1)⟩ (mV hK hZ hP hD [1, 2, 3] rfl rfl [] 1 4 rfl rfl) rfl rfl hl.1 rfl (lv_room (Nat.le_of_ble_eq_true rfl)) dX9_colony_4 ⟨Nat.le_of_ble_eq_true rfl, Nat.le_of_ble_eq_true rfl⟩) (fun u2 H locs hw3 hP hD hS => ?_)
  have hP : va_P G vwCl [(h0, oX9 b), (bi 10, .inl (cI, 12, .inl (fun _ => 0))), (bi 11, .inl (cI, 6, .inl (fun _ => 0))), (bi 12, .inl (cI, 7, .inl (fun _ => 0))), (bi 13, .inl (cI, 7, .inl (fun _ => 0))), (bi 14, .inl (cI, 7, .inl (fun _ => 0))), (bi 15, .inl (cI, 7, .inl (fun _ => 0))), (bi 16, .inl (cI, 7, .inl (fun _ => 0))), (bi 17, .inl (cI, 56, .inl (fun _ => 0))), (bi 18, .inl (cI, 30, .inl (fun _ => 0))), (b 1, oX0 bc 0 0 0 0 0 0 0 0 0 0), (bc 10, .inl (cI, 12, .inl (fun _ => 0))), (bc 11, .inl (cI, 6, .inl (fun _ => 0))), (bc 12, .inl (cI, 7, .inl (fun _ => 0))), (bc 13, .inl (cI, 7, .inl (fun _ => 0))), (bc 14, .inl (cI, 7, .inl (fun _ => 0))), (bc 15, .inl (cI, 7, .inl (fun _ => 0))), (bc 16, .inl (cI, 7, .inl (fun _ => 0))), (bc 17, .inl (cI, 56, .inl (fun _ => 0))), (bc 18, .inl (cI, 30, .inl (fun _ => 0))), (b 3, oX7 z0 0 0 0 0 0 0), (b 4, oX6 bn 0 0), (bn 1, .inl (cI, 7, .inl (fun _ => 0))), (bn 2, .inl (cI, 7, .inl (fun _ => 0))), (bn 3, .inl (cJ, 7, .inr (.inl (fun _ => 0)))), (bn 4, .inl (cI, 7, .inl (fun _ => 0))), (bn 5, .inl (cI, 6, .inl (fun _ => 0))), (bn 6, .inl (cI, 78, .inl (fun _ => 0))), (bn 7, .inl (cJ, 13, .inr (.inl (fun _ => 0)))), (bn 8, .inl (cJ, 13, .inr (.inl (fun _ => 0)))), (bn 9, .inl (cJ, 13, .inr (.inl (fun _ => 0)))), (b 6, oX1 be 0), (b 0, oX4 br 0 (-1) 0 0 1), (br 2, oX8 bt 0), (br 3, oX0 bi 0 0 0 0 0 0 0 0 0 0)] H := hP
  have hD : va_D A [(h0, oX9 b), (bi 10, .inl (cI, 12, .inl (fun _ => 0))), (bi 11, .inl (cI, 6, .inl (fun _ => 0))), (bi 12, .inl (cI, 7, .inl (fun _ => 0))), (bi 13, .inl (cI, 7, .inl (fun _ => 0))), (bi 14, .inl (cI, 7, .inl (fun _ => 0))), (bi 15, .inl (cI, 7, .inl (fun _ => 0))), (bi 16, .inl (cI, 7, .inl (fun _ => 0))), (bi 17, .inl (cI, 56, .inl (fun _ => 0))), (bi 18, .inl (cI, 30, .inl (fun _ => 0))), (b 1, oX0 bc 0 0 0 0 0 0 0 0 0 0), (bc 10, .inl (cI, 12, .inl (fun _ => 0))), (bc 11, .inl (cI, 6, .inl (fun _ => 0))), (bc 12, .inl (cI, 7, .inl (fun _ => 0))), (bc 13, .inl (cI, 7, .inl (fun _ => 0))), (bc 14, .inl (cI, 7, .inl (fun _ => 0))), (bc 15, .inl (cI, 7, .inl (fun _ => 0))), (bc 16, .inl (cI, 7, .inl (fun _ => 0))), (bc 17, .inl (cI, 56, .inl (fun _ => 0))), (bc 18, .inl (cI, 30, .inl (fun _ => 0))), (b 3, oX7 z0 0 0 0 0 0 0), (b 4, oX6 bn 0 0), (bn 1, .inl (cI, 7, .inl (fun _ => 0))), (bn 2, .inl (cI, 7, .inl (fun _ => 0))), (bn 3, .inl (cJ, 7, .inr (.inl (fun _ => 0)))), (bn 4, .inl (cI, 7, .inl (fun _ => 0))), (bn 5, .inl (cI, 6, .inl (fun _ => 0))), (bn 6, .inl (cI, 78, .inl (fun _ => 0))), (bn 7, .inl (cJ, 13, .inr (.inl (fun _ => 0)))), (bn 8, .inl (cJ, 13, .inr (.inl (fun _ => 0)))), (bn 9, .inl (cJ, 13, .inr (.inl (fun _ => 0)))), (b 6, oX1 be 0), (b 0, oX4 br 0 (-1) 0 0 1), (br 2, oX8 bt 0), (br 3, oX0 bi 0 0 0 0 0 0 0 0 0 0)] := hD
  refine lv_aload_n hx hb dX9_colony_7 rfl (lv_at hl 0 rfl) ?_
  refine va_get (D := G) (ci := 9) (v := .ref (b 0)) (C := RX9) (T := TX9) (N := 11) hx hb hts iG_X9 hown hK hP 0 rfl rfl 0 (by decide) (hts _ w_351) (fun _ h9 => h9) rfl dX9_colony_8 ?_
  refine va_getN (D := G) (ci := 4) (v := .int 0) (C := RX4) (T := TX4) (N := 7) hx hb hts iG_X4 hown hK hP 32 rfl rfl 0 (by decide) (nz_use hZ nw_164 rfl) (fun _ h9 => h9) rfl dX9_colony_11 ?_
  refine lv_if_eq (tgt := 20) hx hb dX9_colony_14 (by decide) (fun c4 => ?_) (fun c4 => absurd (by decide) c4)
  refine lv_aload_n hx hb dX9_colony_20 rfl (lv_at hl 0 rfl) ?_
  refine va_get (D := G) (ci := 9) (v := .ref (b 0)) (C := RX9) (T := TX9) (N := 11) hx hb hts iG_X9 hown hK hP 0 rfl rfl 0 (by decide) (hts _ w_351) (fun _ h9 => h9) rfl dX9_colony_21 ?_
  refine va_getN (D := G) (ci := 4) (v := .ref (br 2)) (C := RX4) (T := TX4) (N := 7) hx hb hts iG_X4 hown hK hP 32 rfl rfl 2 (by decide) (nz_use hZ nw_168 rfl) (fun _ h9 => h9) rfl dX9_colony_24 ?_
  refine lv_iconst (v := 0) hx hb dX9_colony_27 (by decide) ?_
  refine va_putN (D := G) (ci := 8) (v := .int 0) (ty := .int) (C := RX8) (T := TX8) (N := 2) hx hb hts iG_X8 tyX8 tyX8_ok nmX8 hown hK hP hD hS 33 rfl rfl 1 (by decide) (nz_use hZ nw_41 rfl) (fun _ h9 => h9) rfl (by decide +kernel) rfl rfl (Nat.le_of_ble_eq_true rfl) dX9_colony_28 (fun H locs hP hD hS => ?_)
  have hP : va_P G vwCl [(h0, oX9 b), (bi 10, .inl (cI, 12, .inl (fun _ => 0))), (bi 11, .inl (cI, 6, .inl (fun _ => 0))), (bi 12, .inl (cI, 7, .inl (fun _ => 0))), (bi 13, .inl (cI, 7, .inl (fun _ => 0))), (bi 14, .inl (cI, 7, .inl (fun _ => 0))), (bi 15, .inl (cI, 7, .inl (fun _ => 0))), (bi 16, .inl (cI, 7, .inl (fun _ => 0))), (bi 17, .inl (cI, 56, .inl (fun _ => 0))), (bi 18, .inl (cI, 30, .inl (fun _ => 0))), (b 1, oX0 bc 0 0 0 0 0 0 0 0 0 0), (bc 10, .inl (cI, 12, .inl (fun _ => 0))), (bc 11, .inl (cI, 6, .inl (fun _ => 0))), (bc 12, .inl (cI, 7, .inl (fun _ => 0))), (bc 13, .inl (cI, 7, .inl (fun _ => 0))), (bc 14, .inl (cI, 7, .inl (fun _ => 0))), (bc 15, .inl (cI, 7, .inl (fun _ => 0))), (bc 16, .inl (cI, 7, .inl (fun _ => 0))), (bc 17, .inl (cI, 56, .inl (fun _ => 0))), (bc 18, .inl (cI, 30, .inl (fun _ => 0))), (b 3, oX7 z0 0 0 0 0 0 0), (b 4, oX6 bn 0 0), (bn 1, .inl (cI, 7, .inl (fun _ => 0))), (bn 2, .inl (cI, 7, .inl (fun _ => 0))), (bn 3, .inl (cJ, 7, .inr (.inl (fun _ => 0)))), (bn 4, .inl (cI, 7, .inl (fun _ => 0))), (bn 5, .inl (cI, 6, .inl (fun _ => 0))), (bn 6, .inl (cI, 78, .inl (fun _ => 0))), (bn 7, .inl (cJ, 13, .inr (.inl (fun _ => 0)))), (bn 8, .inl (cJ, 13, .inr (.inl (fun _ => 0)))), (bn 9, .inl (cJ, 13, .inr (.inl (fun _ => 0)))), (b 6, oX1 be 0), (b 0, oX4 br 0 (-1) 0 0 1), (br 2, oX8 bt 0), (br 3, oX0 bi 0 0 0 0 0 0 0 0 0 0)] H := hP
  have hD : va_D A [(h0, oX9 b), (bi 10, .inl (cI, 12, .inl (fun _ => 0))), (bi 11, .inl (cI, 6, .inl (fun _ => 0))), (bi 12, .inl (cI, 7, .inl (fun _ => 0))), (bi 13, .inl (cI, 7, .inl (fun _ => 0))), (bi 14, .inl (cI, 7, .inl (fun _ => 0))), (bi 15, .inl (cI, 7, .inl (fun _ => 0))), (bi 16, .inl (cI, 7, .inl (fun _ => 0))), (bi 17, .inl (cI, 56, .inl (fun _ => 0))), (bi 18, .inl (cI, 30, .inl (fun _ => 0))), (b 1, oX0 bc 0 0 0 0 0 0 0 0 0 0), (bc 10, .inl (cI, 12, .inl (fun _ => 0))), (bc 11, .inl (cI, 6, .inl (fun _ => 0))), (bc 12, .inl (cI, 7, .inl (fun _ => 0))), (bc 13, .inl (cI, 7, .inl (fun _ => 0))), (bc 14, .inl (cI, 7, .inl (fun _ => 0))), (bc 15, .inl (cI, 7, .inl (fun _ => 0))), (bc 16, .inl (cI, 7, .inl (fun _ => 0))), (bc 17, .inl (cI, 56, .inl (fun _ => 0))), (bc 18, .inl (cI, 30, .inl (fun _ => 0))), (b 3, oX7 z0 0 0 0 0 0 0), (b 4, oX6 bn 0 0), (bn 1, .inl (cI, 7, .inl (fun _ => 0))), (bn 2, .inl (cI, 7, .inl (fun _ => 0))), (bn 3, .inl (cJ, 7, .inr (.inl (fun _ => 0)))), (bn 4, .inl (cI, 7, .inl (fun _ => 0))), (bn 5, .inl (cI, 6, .inl (fun _ => 0))), (bn 6, .inl (cI, 78, .inl (fun _ => 0))), (bn 7, .inl (cJ, 13, .inr (.inl (fun _ => 0)))), (bn 8, .inl (cJ, 13, .inr (.inl (fun _ => 0)))), (bn 9, .inl (cJ, 13, .inr (.inl (fun _ => 0)))), (b 6, oX1 be 0), (b 0, oX4 br 0 (-1) 0 0 1), (br 2, oX8 bt 0), (br 3, oX0 bi 0 0 0 0 0 0 0 0 0 0)] := hD
  refine lv_aload_n hx hb dX9_colony_31 rfl (lv_at hl 0 rfl) ?_
  refine va_get (D := G) (ci := 9) (v := .ref (b 1)) (C := RX9) (T := TX9) (N := 11) hx hb hts iG_X9 hown hK hP 0 rfl rfl 1 (by decide) (hts _ w_352) (fun _ h9 => h9) rfl dX9_colony_32 ?_
  refine lv_aload_n hx hb dX9_colony_35 rfl (lv_at hl 0 rfl) ?_
  refine va_get (D := G) (ci := 9) (v := .ref (b 0)) (C := RX9) (T := TX9) (N := 11) hx hb hts iG_X9 hown hK hP 0 rfl rfl 0 (by decide) (hts _ w_351) (fun _ h9 => h9) rfl dX9_colony_36 ?_
  refine va_getN (D := G) (ci := 4) (v := .ref (br 3)) (C := RX4) (T := TX4) (N := 7) hx hb hts iG_X4 hown hK hP 32 rfl rfl 3 (by decide) (nz_use hZ nw_170 rfl) (fun _ h9 => h9) rfl dX9_colony_39 ?_
  refine k_v (wc := [(b 1, oX0 bc 0 0 0 0 0 0 0 0 0 0), (bc 10, .inl (cI, 12, .inl (fun _ => 0))), (bc 11, .inl (cI, 6, .inl (fun _ => 0))), (bc 12, .inl (cI, 7, .inl (fun _ => 0))), (bc 13, .inl (cI, 7, .inl (fun _ => 0))), (bc 14, .inl (cI, 7, .inl (fun _ => 0))), (bc 15, .inl (cI, 7, .inl (fun _ => 0))), (bc 16, .inl (cI, 7, .inl (fun _ => 0))), (bc 17, .inl (cI, 56, .inl (fun _ => 0))), (bc 18, .inl (cI, 30, .inl (fun _ => 0))), (br 3, oX0 bi 0 0 0 0 0 0 0 0 0 0), (bi 10, .inl (cI, 12, .inl (fun _ => 0))), (bi 11, .inl (cI, 6, .inl (fun _ => 0))), (bi 12, .inl (cI, 7, .inl (fun _ => 0))), (bi 13, .inl (cI, 7, .inl (fun _ => 0))), (bi 14, .inl (cI, 7, .inl (fun _ => 0))), (bi 15, .inl (cI, 7, .inl (fun _ => 0))), (bi 16, .inl (cI, 7, .inl (fun _ => 0))), (bi 17, .inl (cI, 56, .inl (fun _ => 0))), (bi 18, .inl (cI, 30, .inl (fun _ => 0)))]) (wr := [(h0, oX9 b), (b 3, oX7 z0 0 0 0 0 0 0), (b 4, oX6 bn 0 0), (bn 1, .inl (cI, 7, .inl (fun _ => 0))), (bn 2, .inl (cI, 7, .inl (fun _ => 0))), (bn 3, .inl (cJ, 7, .inr (.inl (fun _ => 0)))), (bn 4, .inl (cI, 7, .inl (fun _ => 0))), (bn 5, .inl (cI, 6, .inl (fun _ => 0))), (bn 6, .inl (cI, 78, .inl (fun _ => 0))), (bn 7, .inl (cJ, 13, .inr (.inl (fun _ => 0)))), (bn 8, .inl (cJ, 13, .inr (.inl (fun _ => 0)))), (bn 9, .inl (cJ, 13, .inr (.inl (fun _ => 0)))), (b 6, oX1 be 0), (b 0, oX4 br 0 (-1) 0 0 1), (br 2, oX8 bt 0)]) hP hD hS hA [10, 11, 12, 13, 14, 15, 16, 17, 18, 19, 34, 1, 2, 3, 4, 5, 6, 7, 8, 9] [0, 20, 21, 22, 23, 24, 25, 26, 27, 28, 29, 30, 31, 32, 33] rfl rfl rfl (by decide) (va_runVN (As := [.ref (br 3)]) (rest := []) ⟨hx, hb, hml, hown, hts⟩ (f_X0_become l G cI cJ cZ cB cQ _ (b 1) bc (br 3) bi) ⟨va_cnB (host := "WidowRoads") 1 hts (gW w_565) rfl rfl rfl (nz_nw hZ nw_562 rfl) (hts _ w_4) hd_X0_become ⟨Nat.le_of_ble_eq_true rfl, Nat.le_of_ble_eq_true rfl⟩, (hts _ w_564), (hts _ wp_20)⟩ (mV hK hZ hP hD [10, 11, 12, 13, 14, 15, 16, 17, 18, 19, 34, 1, 2, 3, 4, 5, 6, 7, 8, 9] rfl rfl [.ref (br 3)] 10 0 rfl rfl) rfl rfl hl.1 rfl (lv_room (Nat.le_of_ble_eq_true rfl)) dX9_colony_42 ⟨Nat.le_of_ble_eq_true rfl, Nat.le_of_ble_eq_true rfl⟩) (fun u6 H locs hw7 hP hD hS => ?_)
  have hP : va_P G vwCl [(h0, oX9 b), (b 3, oX7 z0 0 0 0 0 0 0), (b 4, oX6 bn 0 0), (bn 1, .inl (cI, 7, .inl (fun _ => 0))), (bn 2, .inl (cI, 7, .inl (fun _ => 0))), (bn 3, .inl (cJ, 7, .inr (.inl (fun _ => 0)))), (bn 4, .inl (cI, 7, .inl (fun _ => 0))), (bn 5, .inl (cI, 6, .inl (fun _ => 0))), (bn 6, .inl (cI, 78, .inl (fun _ => 0))), (bn 7, .inl (cJ, 13, .inr (.inl (fun _ => 0)))), (bn 8, .inl (cJ, 13, .inr (.inl (fun _ => 0)))), (bn 9, .inl (cJ, 13, .inr (.inl (fun _ => 0)))), (b 6, oX1 be 0), (b 0, oX4 br 0 (-1) 0 0 1), (br 2, oX8 bt 0), (b 1, oX0 bc 0 0 0 0 0 0 0 0 0 0), (bc 10, .inl (cI, 12, .inl (fun _ => 0))), (bc 11, .inl (cI, 6, .inl (fun _ => 0))), (bc 12, .inl (cI, 7, .inl (fun _ => 0))), (bc 13, .inl (cI, 7, .inl (fun _ => 0))), (bc 14, .inl (cI, 7, .inl (fun _ => 0))), (bc 15, .inl (cI, 7, .inl (fun _ => 0))), (bc 16, .inl (cI, 7, .inl (fun _ => 0))), (bc 17, .inl (cI, 56, .inl (fun _ => 0))), (bc 18, .inl (cI, 30, .inl (fun _ => 0))), (br 3, oX0 bi 0 0 0 0 0 0 0 0 0 0), (bi 10, .inl (cI, 12, .inl (fun _ => 0))), (bi 11, .inl (cI, 6, .inl (fun _ => 0))), (bi 12, .inl (cI, 7, .inl (fun _ => 0))), (bi 13, .inl (cI, 7, .inl (fun _ => 0))), (bi 14, .inl (cI, 7, .inl (fun _ => 0))), (bi 15, .inl (cI, 7, .inl (fun _ => 0))), (bi 16, .inl (cI, 7, .inl (fun _ => 0))), (bi 17, .inl (cI, 56, .inl (fun _ => 0))), (bi 18, .inl (cI, 30, .inl (fun _ => 0)))] H := hP
  have hD : va_D A [(h0, oX9 b), (b 3, oX7 z0 0 0 0 0 0 0), (b 4, oX6 bn 0 0), (bn 1, .inl (cI, 7, .inl (fun _ => 0))), (bn 2, .inl (cI, 7, .inl (fun _ => 0))), (bn 3, .inl (cJ, 7, .inr (.inl (fun _ => 0)))), (bn 4, .inl (cI, 7, .inl (fun _ => 0))), (bn 5, .inl (cI, 6, .inl (fun _ => 0))), (bn 6, .inl (cI, 78, .inl (fun _ => 0))), (bn 7, .inl (cJ, 13, .inr (.inl (fun _ => 0)))), (bn 8, .inl (cJ, 13, .inr (.inl (fun _ => 0)))), (bn 9, .inl (cJ, 13, .inr (.inl (fun _ => 0)))), (b 6, oX1 be 0), (b 0, oX4 br 0 (-1) 0 0 1), (br 2, oX8 bt 0), (b 1, oX0 bc 0 0 0 0 0 0 0 0 0 0), (bc 10, .inl (cI, 12, .inl (fun _ => 0))), (bc 11, .inl (cI, 6, .inl (fun _ => 0))), (bc 12, .inl (cI, 7, .inl (fun _ => 0))), (bc 13, .inl (cI, 7, .inl (fun _ => 0))), (bc 14, .inl (cI, 7, .inl (fun _ => 0))), (bc 15, .inl (cI, 7, .inl (fun _ => 0))), (bc 16, .inl (cI, 7, .inl (fun _ => 0))), (bc 17, .inl (cI, 56, .inl (fun _ => 0))), (bc 18, .inl (cI, 30, .inl (fun _ => 0))), (br 3, oX0 bi 0 0 0 0 0 0 0 0 0 0), (bi 10, .inl (cI, 12, .inl (fun _ => 0))), (bi 11, .inl (cI, 6, .inl (fun _ => 0))), (bi 12, .inl (cI, 7, .inl (fun _ => 0))), (bi 13, .inl (cI, 7, .inl (fun _ => 0))), (bi 14, .inl (cI, 7, .inl (fun _ => 0))), (bi 15, .inl (cI, 7, .inl (fun _ => 0))), (bi 16, .inl (cI, 7, .inl (fun _ => 0))), (bi 17, .inl (cI, 56, .inl (fun _ => 0))), (bi 18, .inl (cI, 30, .inl (fun _ => 0)))] := hD
  refine lv_aload_n hx hb dX9_colony_45 rfl (lv_at hl 0 rfl) ?_
  refine k_v (wc := [(h0, oX9 b), (b 1, oX0 bc 0 0 0 0 0 0 0 0 0 0), (b 3, oX7 z0 0 0 0 0 0 0), (b 4, oX6 bn 0 0), (bn 1, .inl (cI, 7, .inl (fun _ => 0))), (bn 2, .inl (cI, 7, .inl (fun _ => 0))), (bn 3, .inl (cJ, 7, .inr (.inl (fun _ => 0)))), (bn 4, .inl (cI, 7, .inl (fun _ => 0))), (bn 5, .inl (cI, 6, .inl (fun _ => 0))), (bn 6, .inl (cI, 78, .inl (fun _ => 0))), (bn 7, .inl (cJ, 13, .inr (.inl (fun _ => 0)))), (bn 8, .inl (cJ, 13, .inr (.inl (fun _ => 0)))), (bn 9, .inl (cJ, 13, .inr (.inl (fun _ => 0)))), (b 6, oX1 be 0)]) (wr := [(b 0, oX4 br 0 (-1) 0 0 1), (br 2, oX8 bt 0), (bc 10, .inl (cI, 12, .inl (fun _ => 0))), (bc 11, .inl (cI, 6, .inl (fun _ => 0))), (bc 12, .inl (cI, 7, .inl (fun _ => 0))), (bc 13, .inl (cI, 7, .inl (fun _ => 0))), (bc 14, .inl (cI, 7, .inl (fun _ => 0))), (bc 15, .inl (cI, 7, .inl (fun _ => 0))), (bc 16, .inl (cI, 7, .inl (fun _ => 0))), (bc 17, .inl (cI, 56, .inl (fun _ => 0))), (bc 18, .inl (cI, 30, .inl (fun _ => 0))), (br 3, oX0 bi 0 0 0 0 0 0 0 0 0 0), (bi 10, .inl (cI, 12, .inl (fun _ => 0))), (bi 11, .inl (cI, 6, .inl (fun _ => 0))), (bi 12, .inl (cI, 7, .inl (fun _ => 0))), (bi 13, .inl (cI, 7, .inl (fun _ => 0))), (bi 14, .inl (cI, 7, .inl (fun _ => 0))), (bi 15, .inl (cI, 7, .inl (fun _ => 0))), (bi 16, .inl (cI, 7, .inl (fun _ => 0))), (bi 17, .inl (cI, 56, .inl (fun _ => 0))), (bi 18, .inl (cI, 30, .inl (fun _ => 0)))]) hP hD hS hA [0, 15, 1, 2, 3, 4, 5, 6, 7, 8, 9, 10, 11, 12] [13, 14, 16, 17, 18, 19, 20, 21, 22, 23, 24, 25, 26, 27, 28, 29, 30, 31, 32, 33, 34] rfl rfl rfl (by decide) (va_runV (As := []) (rest := []) ⟨hx, hb, hml, hown, hts⟩ (f_X9_walkAnew l G cI cJ cZ cB cQ _ h0 b bc bn be) (cwV 0 hts (gV w_569 w_571 wp_21 w_1 w_572) rfl rfl rfl ⟨rfl, hd_X9_walkAnew⟩ ⟨Nat.le_of_ble_eq_true rfl, Nat.le_of_ble_eq_true rfl⟩) (mV hK hZ hP hD [0, 15, 1, 2, 3, 4, 5, 6, 7, 8, 9, 10, 11, 12] rfl rfl [] 0 9 rfl rfl) rfl rfl hl.1 rfl (lv_room (Nat.le_of_ble_eq_true rfl)) dX9_colony_46 ⟨Nat.le_of_ble_eq_true rfl, Nat.le_of_ble_eq_true rfl⟩) (fun u9 H locs hw10 hP hD hS => ?_)
  obtain ⟨f111, f612⟩ := u9
  have hP : va_P G vwCl [(b 0, oX4 br 0 (-1) 0 0 1), (br 2, oX8 bt 0), (bc 10, .inl (cI, 12, .inl (fun _ => 0))), (bc 11, .inl (cI, 6, .inl (fun _ => 0))), (bc 12, .inl (cI, 7, .inl (fun _ => 0))), (bc 13, .inl (cI, 7, .inl (fun _ => 0))), (bc 14, .inl (cI, 7, .inl (fun _ => 0))), (bc 15, .inl (cI, 7, .inl (fun _ => 0))), (bc 16, .inl (cI, 7, .inl (fun _ => 0))), (bc 17, .inl (cI, 56, .inl (fun _ => 0))), (bc 18, .inl (cI, 30, .inl (fun _ => 0))), (br 3, oX0 bi 0 0 0 0 0 0 0 0 0 0), (bi 10, .inl (cI, 12, .inl (fun _ => 0))), (bi 11, .inl (cI, 6, .inl (fun _ => 0))), (bi 12, .inl (cI, 7, .inl (fun _ => 0))), (bi 13, .inl (cI, 7, .inl (fun _ => 0))), (bi 14, .inl (cI, 7, .inl (fun _ => 0))), (bi 15, .inl (cI, 7, .inl (fun _ => 0))), (bi 16, .inl (cI, 7, .inl (fun _ => 0))), (bi 17, .inl (cI, 56, .inl (fun _ => 0))), (bi 18, .inl (cI, 30, .inl (fun _ => 0))), (h0, oX9 b), (b 1, oX0 bc 0 0 0 0 0 0 0 0 0 0), (b 3, oX7 z0 0 0 0 (-1) (-1) (-1)), (b 4, oX6 bn 0 0), (bn 1, .inl (cI, 7, .inl f111)), (bn 2, .inl (cI, 7, .inl (fun _ => 0))), (bn 3, .inl (cJ, 7, .inr (.inl (fun _ => 0)))), (bn 4, .inl (cI, 7, .inl (fun _ => 0))), (bn 5, .inl (cI, 6, .inl (fun _ => 0))), (bn 6, .inl (cI, 78, .inl f612)), (bn 7, .inl (cJ, 13, .inr (.inl (fun _ => 0)))), (bn 8, .inl (cJ, 13, .inr (.inl (fun _ => 0)))), (bn 9, .inl (cJ, 13, .inr (.inl (fun _ => 0)))), (b 6, oX1 be 0)] H := hP
  have hD : va_D A [(b 0, oX4 br 0 (-1) 0 0 1), (br 2, oX8 bt 0), (bc 10, .inl (cI, 12, .inl (fun _ => 0))), (bc 11, .inl (cI, 6, .inl (fun _ => 0))), (bc 12, .inl (cI, 7, .inl (fun _ => 0))), (bc 13, .inl (cI, 7, .inl (fun _ => 0))), (bc 14, .inl (cI, 7, .inl (fun _ => 0))), (bc 15, .inl (cI, 7, .inl (fun _ => 0))), (bc 16, .inl (cI, 7, .inl (fun _ => 0))), (bc 17, .inl (cI, 56, .inl (fun _ => 0))), (bc 18, .inl (cI, 30, .inl (fun _ => 0))), (br 3, oX0 bi 0 0 0 0 0 0 0 0 0 0), (bi 10, .inl (cI, 12, .inl (fun _ => 0))), (bi 11, .inl (cI, 6, .inl (fun _ => 0))), (bi 12, .inl (cI, 7, .inl (fun _ => 0))), (bi 13, .inl (cI, 7, .inl (fun _ => 0))), (bi 14, .inl (cI, 7, .inl (fun _ => 0))), (bi 15, .inl (cI, 7, .inl (fun _ => 0))), (bi 16, .inl (cI, 7, .inl (fun _ => 0))), (bi 17, .inl (cI, 56, .inl (fun _ => 0))), (bi 18, .inl (cI, 30, .inl (fun _ => 0))), (h0, oX9 b), (b 1, oX0 bc 0 0 0 0 0 0 0 0 0 0), (b 3, oX7 z0 0 0 0 (-1) (-1) (-1)), (b 4, oX6 bn 0 0), (bn 1, .inl (cI, 7, .inl f111)), (bn 2, .inl (cI, 7, .inl (fun _ => 0))), (bn 3, .inl (cJ, 7, .inr (.inl (fun _ => 0)))), (bn 4, .inl (cI, 7, .inl (fun _ => 0))), (bn 5, .inl (cI, 6, .inl (fun _ => 0))), (bn 6, .inl (cI, 78, .inl f612)), (bn 7, .inl (cJ, 13, .inr (.inl (fun _ => 0)))), (bn 8, .inl (cJ, 13, .inr (.inl (fun _ => 0)))), (bn 9, .inl (cJ, 13, .inr (.inl (fun _ => 0)))), (b 6, oX1 be 0)] := hD
  refine lv_aload_n hx hb dX9_colony_49 rfl (lv_at hl 0 rfl) ?_
  refine va_get (D := G) (ci := 9) (v := .ref (b 1)) (C := RX9) (T := TX9) (N := 11) hx hb hts iG_X9 hown hK hP 21 rfl rfl 1 (by decide) (hts _ w_352) (fun _ h9 => h9) rfl dX9_colony_50 ?_
  refine va_getN (D := G) (ci := 0) (v := .int 0) (C := RX0) (T := TX0) (N := 19) hx hb hts iG_X0 hown hK hP 22 rfl rfl 0 (by decide) (nz_use hZ nw_57 rfl) (fun _ h9 => h9) rfl dX9_colony_53 ?_
  exact hret _ _ _ _ 0 (f111, f612) (hP.sub (ws' := [(h0, oX9 b), (b 0, oX4 br 0 (-1) 0 0 1), (br 2, oX8 bt 0), (br 3, oX0 bi 0 0 0 0 0 0 0 0 0 0), (bi 10, .inl (cI, 12, .inl (fun _ => 0))), (bi 11, .inl (cI, 6, .inl (fun _ => 0))), (bi 12, .inl (cI, 7, .inl (fun _ => 0))), (bi 13, .inl (cI, 7, .inl (fun _ => 0))), (bi 14, .inl (cI, 7, .inl (fun _ => 0))), (bi 15, .inl (cI, 7, .inl (fun _ => 0))), (bi 16, .inl (cI, 7, .inl (fun _ => 0))), (bi 17, .inl (cI, 56, .inl (fun _ => 0))), (bi 18, .inl (cI, 30, .inl (fun _ => 0))), (b 1, oX0 bc 0 0 0 0 0 0 0 0 0 0), (bc 10, .inl (cI, 12, .inl (fun _ => 0))), (bc 11, .inl (cI, 6, .inl (fun _ => 0))), (bc 12, .inl (cI, 7, .inl (fun _ => 0))), (bc 13, .inl (cI, 7, .inl (fun _ => 0))), (bc 14, .inl (cI, 7, .inl (fun _ => 0))), (bc 15, .inl (cI, 7, .inl (fun _ => 0))), (bc 16, .inl (cI, 7, .inl (fun _ => 0))), (bc 17, .inl (cI, 56, .inl (fun _ => 0))), (bc 18, .inl (cI, 30, .inl (fun _ => 0))), (b 3, oX7 z0 0 0 0 (-1) (-1) (-1)), (b 4, oX6 bn 0 0), (bn 1, .inl (cI, 7, .inl f111)), (bn 2, .inl (cI, 7, .inl (fun _ => 0))), (bn 3, .inl (cJ, 7, .inr (.inl (fun _ => 0)))), (bn 4, .inl (cI, 7, .inl (fun _ => 0))), (bn 5, .inl (cI, 6, .inl (fun _ => 0))), (bn 6, .inl (cI, 78, .inl f612)), (bn 7, .inl (cJ, 13, .inr (.inl (fun _ => 0)))), (bn 8, .inl (cJ, 13, .inr (.inl (fun _ => 0)))), (bn 9, .inl (cJ, 13, .inr (.inl (fun _ => 0)))), (b 6, oX1 be 0)]) [21, 0, 1, 11, 12, 13, 14, 15, 16, 17, 18, 19, 20, 22, 2, 3, 4, 5, 6, 7, 8, 9, 10, 23, 24, 25, 26, 27, 28, 29, 30, 31, 32, 33, 34] rfl) (hD.sub (ws' := [(h0, oX9 b), (b 0, oX4 br 0 (-1) 0 0 1), (br 2, oX8 bt 0), (br 3, oX0 bi 0 0 0 0 0 0 0 0 0 0), (bi 10, .inl (cI, 12, .inl (fun _ => 0))), (bi 11, .inl (cI, 6, .inl (fun _ => 0))), (bi 12, .inl (cI, 7, .inl (fun _ => 0))), (bi 13, .inl (cI, 7, .inl (fun _ => 0))), (bi 14, .inl (cI, 7, .inl (fun _ => 0))), (bi 15, .inl (cI, 7, .inl (fun _ => 0))), (bi 16, .inl (cI, 7, .inl (fun _ => 0))), (bi 17, .inl (cI, 56, .inl (fun _ => 0))), (bi 18, .inl (cI, 30, .inl (fun _ => 0))), (b 1, oX0 bc 0 0 0 0 0 0 0 0 0 0), (bc 10, .inl (cI, 12, .inl (fun _ => 0))), (bc 11, .inl (cI, 6, .inl (fun _ => 0))), (bc 12, .inl (cI, 7, .inl (fun _ => 0))), (bc 13, .inl (cI, 7, .inl (fun _ => 0))), (bc 14, .inl (cI, 7, .inl (fun _ => 0))), (bc 15, .inl (cI, 7, .inl (fun _ => 0))), (bc 16, .inl (cI, 7, .inl (fun _ => 0))), (bc 17, .inl (cI, 56, .inl (fun _ => 0))), (bc 18, .inl (cI, 30, .inl (fun _ => 0))), (b 3, oX7 z0 0 0 0 (-1) (-1) (-1)), (b 4, oX6 bn 0 0), (bn 1, .inl (cI, 7, .inl f111)), (bn 2, .inl (cI, 7, .inl (fun _ => 0))), (bn 3, .inl (cJ, 7, .inr (.inl (fun _ => 0)))), (bn 4, .inl (cI, 7, .inl (fun _ => 0))), (bn 5, .inl (cI, 6, .inl (fun _ => 0))), (bn 6, .inl (cI, 78, .inl f612)), (bn 7, .inl (cJ, 13, .inr (.inl (fun _ => 0)))), (bn 8, .inl (cJ, 13, .inr (.inl (fun _ => 0)))), (bn 9, .inl (cJ, 13, .inr (.inl (fun _ => 0)))), (b 6, oX1 be 0)]) [21, 0, 1, 11, 12, 13, 14, 15, 16, 17, 18, 19, 20, 22, 2, 3, 4, 5, 6, 7, 8, 9, 10, 23, 24, 25, 26, 27, 28, 29, 30, 31, 32, 33, 34] rfl rfl) hS dX9_colony_56 rfl
set_option maxHeartbeats 4000000 in
set_option maxRecDepth 100000 in
theorem f_X9_count (l : Launch) (G : va_G) (cI cJ cZ cB cQ : ClassId) (sz : Nat) (h0 : Nat) (b : Nat → Nat) (bc : Nat → Nat) (br : Nat → Nat) (bt : Nat → Nat) (bw : Nat → Nat) (p0 : Int32) : CI l yX9_count (wl_ yX9_count cX9_count 2 (some .int)) ({ frames := 2, cells := 0, slots := 0, locals := 42 } : Room) G (TY cI cJ cZ cB cQ) [.ref h0, .int p0] [(h0, oX9 b), (b 1, oX0 bc 0 0 0 0 0 0 0 0 0 0), (b 0, oX4 br 0 (-1) 0 0 0), (br 2, oX8 bt 0), (b 8, oX5 bw), (bw 1, .inl (cZ, 4, .inl (fun _ => 0)))] sz (fun (r : Int32) (u : Unit) => r = if 0 ≤ p0.toInt ∧ p0.toInt ≤ 11 then 0 else -1) (fun _ : Unit => [(h0, oX9 b), (b 1, oX0 bc 0 0 0 0 0 0 0 0 0 0), (b 0, oX4 br 0 (-1) 0 0 0), (br 2, oX8 bt 0), (b 8, oX5 bw), (bw 1, .inl (cZ, 4, .inl (fun _ => 0)))]) 0 0 := by
  refine CI.go (cc := cX9_count) (maxL := 2) (ret := (some .int)) (by decide) rfl (Nat.le_of_ble_eq_true rfl) ?_
  intro p e s m below meth c A ls Q hBd hret
  obtain ⟨hx, hb, hr, hml, hts, hown, hlk, hnm, hP, hK, hD, hA, hZ, hl⟩ := hBd
  have hown : s.vm.findClass RX9 = some m.cls := hown
  have hl : lv_has ls 2 [(0, .ref h0), (1, .int p0)] := hl
  have hS : va_S A s.heap s.heap [] := va_S.rf
  refine lv_iload_n hx hb dX9_count_0 rfl (lv_at hl 1 rfl) ?_
  have c1 : (p0.toInt < 0 ∨ 11 < p0.toInt) ∨ p0.toInt = 0 ∨ p0.toInt = 1 ∨ p0.toInt = 2 ∨ p0.toInt = 3 ∨ p0.toInt = 4 ∨ p0.toInt = 5 ∨ p0.toInt = 6 ∨ p0.toInt = 7 ∨ p0.toInt = 8 ∨ p0.toInt = 9 ∨ p0.toInt = 10 ∨ p0.toInt = 11 := by omega
  rcases c1 with c1 | c1 | c1 | c1 | c1 | c1 | c1 | c1 | c1 | c1 | c1 | c1 | c1
  · refine lv_tableOut (tgt := 163) hx hb dX9_count_1 c1 (by decide) ?_
    refine lv_iconst (v := (-1)) hx hb dX9_count_163 (by decide) ?_
    exact hret _ _ _ _ (-1) () hP hD hS dX9_count_164 (by (repeat' split) <;> first | exact rfl | (exfalso; omega))
  · have zc1 : p0.toInt = 0 := c1
    refine lv_tableIn (off := 63) (tgt := 64) hx hb dX9_count_1 (by rw [zc1]; decide) (by rw [zc1]; decide) (by rw [zc1]; rfl) (by decide) ?_
    refine lv_aload_n hx hb dX9_count_64 rfl (lv_at hl 0 rfl) ?_
    refine va_get (D := G) (ci := 9) (v := .ref (b 1)) (C := RX9) (T := TX9) (N := 11) hx hb hts iG_X9 hown hK hP 0 rfl rfl 1 (by decide) (hts _ w_352) (fun _ h9 => h9) rfl dX9_count_65 ?_
    refine va_getN (D := G) (ci := 0) (v := .int 0) (C := RX0) (T := TX0) (N := 19) hx hb hts iG_X0 hown hK hP 1 rfl rfl 1 (by decide) (nz_use hZ nw_62 rfl) (fun _ h9 => h9) rfl dX9_count_68 ?_
    exact hret _ _ _ _ 0 () hP hD hS dX9_count_71 (by (repeat' split) <;> first | exact rfl | (exfalso; omega))
  · have zc1 : p0.toInt = 1 := c1
    refine lv_tableIn (off := 71) (tgt := 72) hx hb dX9_count_1 (by rw [zc1]; decide) (by rw [zc1]; decide) (by rw [zc1]; rfl) (by decide) ?_
    refine lv_aload_n hx hb dX9_count_72 rfl (lv_at hl 0 rfl) ?_
    refine va_get (D := G) (ci := 9) (v := .ref (b 1)) (C := RX9) (T := TX9) (N := 11) hx hb hts iG_X9 hown hK hP 0 rfl rfl 1 (by decide) (hts _ w_352) (fun _ h9 => h9) rfl dX9_count_73 ?_
    refine va_getN (D := G) (ci := 0) (v := .int 0) (C := RX0) (T := TX0) (N := 19) hx hb hts iG_X0 hown hK hP 1 rfl rfl 2 (by decide) (nz_use hZ nw_66 rfl) (fun _ h9 => h9) rfl dX9_count_76 ?_
    exact hret _ _ _ _ 0 () hP hD hS dX9_count_79 (by (repeat' split) <;> first | exact rfl | (exfalso; omega))
  · have zc1 : p0.toInt = 2 := c1
    refine lv_tableIn (off := 79) (tgt := 80) hx hb dX9_count_1 (by rw [zc1]; decide) (by rw [zc1]; decide) (by rw [zc1]; rfl) (by decide) ?_
    refine lv_aload_n hx hb dX9_count_80 rfl (lv_at hl 0 rfl) ?_
    refine va_get (D := G) (ci := 9) (v := .ref (b 1)) (C := RX9) (T := TX9) (N := 11) hx hb hts iG_X9 hown hK hP 0 rfl rfl 1 (by decide) (hts _ w_352) (fun _ h9 => h9) rfl dX9_count_81 ?_
    refine va_getN (D := G) (ci := 0) (v := .int 0) (C := RX0) (T := TX0) (N := 19) hx hb hts iG_X0 hown hK hP 1 rfl rfl 3 (by decide) (nz_use hZ nw_70 rfl) (fun _ h9 => h9) rfl dX9_count_84 ?_
    exact hret _ _ _ _ 0 () hP hD hS dX9_count_87 (by (repeat' split) <;> first | exact rfl | (exfalso; omega))
  · have zc1 : p0.toInt = 3 := c1
    refine lv_tableIn (off := 87) (tgt := 88) hx hb dX9_count_1 (by rw [zc1]; decide) (by rw [zc1]; decide) (by rw [zc1]; rfl) (by decide) ?_
    refine lv_aload_n hx hb dX9_count_88 rfl (lv_at hl 0 rfl) ?_
    refine va_get (D := G) (ci := 9) (v := .ref (b 1)) (C := RX9) (T := TX9) (N := 11) hx hb hts iG_X9 hown hK hP 0 rfl rfl 1 (by decide) (hts _ w_352) (fun _ h9 => h9) rfl dX9_count_89 ?_
    refine va_getN (D := G) (ci := 0) (v := .int 0) (C := RX0) (T := TX0) (N := 19) hx hb hts iG_X0 hown hK hP 1 rfl rfl 4 (by decide) (nz_use hZ nw_73 rfl) (fun _ h9 => h9) rfl dX9_count_92 ?_
    exact hret _ _ _ _ 0 () hP hD hS dX9_count_95 (by (repeat' split) <;> first | exact rfl | (exfalso; omega))
  · have zc1 : p0.toInt = 4 := c1
    refine lv_tableIn (off := 95) (tgt := 96) hx hb dX9_count_1 (by rw [zc1]; decide) (by rw [zc1]; decide) (by rw [zc1]; rfl) (by decide) ?_
    refine lv_aload_n hx hb dX9_count_96 rfl (lv_at hl 0 rfl) ?_
    refine va_get (D := G) (ci := 9) (v := .ref (b 1)) (C := RX9) (T := TX9) (N := 11) hx hb hts iG_X9 hown hK hP 0 rfl rfl 1 (by decide) (hts _ w_352) (fun _ h9 => h9) rfl dX9_count_97 ?_
    refine va_getN (D := G) (ci := 0) (v := .int 0) (C := RX0) (T := TX0) (N := 19) hx hb hts iG_X0 hown hK hP 1 rfl rfl 5 (by decide) (nz_use hZ nw_76 rfl) (fun _ h9 => h9) rfl dX9_count_100 ?_
    exact hret _ _ _ _ 0 () hP hD hS dX9_count_103 (by (repeat' split) <;> first | exact rfl | (exfalso; omega))
  · have zc1 : p0.toInt = 5 := c1
    refine lv_tableIn (off := 103) (tgt := 104) hx hb dX9_count_1 (by rw [zc1]; decide) (by rw [zc1]; decide) (by rw [zc1]; rfl) (by decide) ?_
    refine lv_aload_n hx hb dX9_count_104 rfl (lv_at hl 0 rfl) ?_
    refine va_get (D := G) (ci := 9) (v := .ref (b 1)) (C := RX9) (T := TX9) (N := 11) hx hb hts iG_X9 hown hK hP 0 rfl rfl 1 (by decide) (hts _ w_352) (fun _ h9 => h9) rfl dX9_count_105 ?_
    refine va_getN (D := G) (ci := 0) (v := .int 0) (C := RX0) (T := TX0) (N := 19) hx hb hts iG_X0 hown hK hP 1 rfl rfl 6 (by decide) (nz_use hZ nw_79 rfl) (fun _ h9 => h9) rfl dX9_count_108 ?_
    exact hret _ _ _ _ 0 () hP hD hS dX9_count_111 (by (repeat' split) <;> first | exact rfl | (exfalso; omega))
  · have zc1 : p0.toInt = 6 := c1
    refine lv_tableIn (off := 111) (tgt := 112) hx hb dX9_count_1 (by rw [zc1]; decide) (by rw [zc1]; decide) (by rw [zc1]; rfl) (by decide) ?_
    refine lv_aload_n hx hb dX9_count_112 rfl (lv_at hl 0 rfl) ?_
    refine va_get (D := G) (ci := 9) (v := .ref (b 1)) (C := RX9) (T := TX9) (N := 11) hx hb hts iG_X9 hown hK hP 0 rfl rfl 1 (by decide) (hts _ w_352) (fun _ h9 => h9) rfl dX9_count_113 ?_
    refine va_getN (D := G) (ci := 0) (v := .int 0) (C := RX0) (T := TX0) (N := 19) hx hb hts iG_X0 hown hK hP 1 rfl rfl 7 (by decide) (nz_use hZ nw_83 rfl) (fun _ h9 => h9) rfl dX9_count_116 ?_
    exact hret _ _ _ _ 0 () hP hD hS dX9_count_119 (by (repeat' split) <;> first | exact rfl | (exfalso; omega))
  · have zc1 : p0.toInt = 7 := c1
    refine lv_tableIn (off := 119) (tgt := 120) hx hb dX9_count_1 (by rw [zc1]; decide) (by rw [zc1]; decide) (by rw [zc1]; rfl) (by decide) ?_
    refine lv_aload_n hx hb dX9_count_120 rfl (lv_at hl 0 rfl) ?_
    refine va_get (D := G) (ci := 9) (v := .ref (b 1)) (C := RX9) (T := TX9) (N := 11) hx hb hts iG_X9 hown hK hP 0 rfl rfl 1 (by decide) (hts _ w_352) (fun _ h9 => h9) rfl dX9_count_121 ?_
    refine va_getN (D := G) (ci := 0) (v := .int 0) (C := RX0) (T := TX0) (N := 19) hx hb hts iG_X0 hown hK hP 1 rfl rfl 8 (by decide) (nz_use hZ nw_88 rfl) (fun _ h9 => h9) rfl dX9_count_124 ?_
    exact hret _ _ _ _ 0 () hP hD hS dX9_count_127 (by (repeat' split) <;> first | exact rfl | (exfalso; omega))
  · have zc1 : p0.toInt = 8 := c1
    refine lv_tableIn (off := 127) (tgt := 128) hx hb dX9_count_1 (by rw [zc1]; decide) (by rw [zc1]; decide) (by rw [zc1]; rfl) (by decide) ?_
    refine lv_aload_n hx hb dX9_count_128 rfl (lv_at hl 0 rfl) ?_
    refine va_get (D := G) (ci := 9) (v := .ref (b 1)) (C := RX9) (T := TX9) (N := 11) hx hb hts iG_X9 hown hK hP 0 rfl rfl 1 (by decide) (hts _ w_352) (fun _ h9 => h9) rfl dX9_count_129 ?_
    refine va_getN (D := G) (ci := 0) (v := .int 0) (C := RX0) (T := TX0) (N := 19) hx hb hts iG_X0 hown hK hP 1 rfl rfl 9 (by decide) (nz_use hZ nw_90 rfl) (fun _ h9 => h9) rfl dX9_count_132 ?_
    exact hret _ _ _ _ 0 () hP hD hS dX9_count_135 (by (repeat' split) <;> first | exact rfl | (exfalso; omega))
  · have zc1 : p0.toInt = 9 := c1
    refine lv_tableIn (off := 135) (tgt := 136) hx hb dX9_count_1 (by rw [zc1]; decide) (by rw [zc1]; decide) (by rw [zc1]; rfl) (by decide) ?_
    refine lv_aload_n hx hb dX9_count_136 rfl (lv_at hl 0 rfl) ?_
    refine va_get (D := G) (ci := 9) (v := .ref (b 1)) (C := RX9) (T := TX9) (N := 11) hx hb hts iG_X9 hown hK hP 0 rfl rfl 1 (by decide) (hts _ w_352) (fun _ h9 => h9) rfl dX9_count_137 ?_
    refine va_getN (D := G) (ci := 0) (v := .int 0) (C := RX0) (T := TX0) (N := 19) hx hb hts iG_X0 hown hK hP 1 rfl rfl 0 (by decide) (nz_use hZ nw_57 rfl) (fun _ h9 => h9) rfl dX9_count_140 ?_
    exact hret _ _ _ _ 0 () hP hD hS dX9_count_143 (by (repeat' split) <;> first | exact rfl | (exfalso; omega))
  · have zc1 : p0.toInt = 10 := c1
    refine lv_tableIn (off := 143) (tgt := 144) hx hb dX9_count_1 (by rw [zc1]; decide) (by rw [zc1]; decide) (by rw [zc1]; rfl) (by decide) ?_
    refine lv_aload_n hx hb dX9_count_144 rfl (lv_at hl 0 rfl) ?_
    refine va_get (D := G) (ci := 9) (v := .ref (b 0)) (C := RX9) (T := TX9) (N := 11) hx hb hts iG_X9 hown hK hP 0 rfl rfl 0 (by decide) (hts _ w_351) (fun _ h9 => h9) rfl dX9_count_145 ?_
    refine va_getN (D := G) (ci := 4) (v := .ref (br 2)) (C := RX4) (T := TX4) (N := 7) hx hb hts iG_X4 hown hK hP 2 rfl rfl 2 (by decide) (nz_use hZ nw_168 rfl) (fun _ h9 => h9) rfl dX9_count_148 ?_
    refine va_getN (D := G) (ci := 8) (v := .int 0) (C := RX8) (T := TX8) (N := 2) hx hb hts iG_X8 hown hK hP 3 rfl rfl 1 (by decide) (nz_use hZ nw_41 rfl) (fun _ h9 => h9) rfl dX9_count_151 ?_
    exact hret _ _ _ _ 0 () hP hD hS dX9_count_154 (by (repeat' split) <;> first | exact rfl | (exfalso; omega))
  · have zc1 : p0.toInt = 11 := c1
    refine lv_tableIn (off := 154) (tgt := 155) hx hb dX9_count_1 (by rw [zc1]; decide) (by rw [zc1]; decide) (by rw [zc1]; rfl) (by decide) ?_
    refine lv_aload_n hx hb dX9_count_155 rfl (lv_at hl 0 rfl) ?_
    refine va_get (D := G) (ci := 9) (v := .ref (b 8)) (C := RX9) (T := TX9) (N := 11) hx hb hts iG_X9 hown hK hP 0 rfl rfl 8 (by decide) (hts _ w_359) (fun _ h9 => h9) rfl dX9_count_156 ?_
    refine k_i (wc := [(b 8, oX5 bw), (bw 1, .inl (cZ, 4, .inl (fun _ => 0)))]) (wr := [(h0, oX9 b), (b 1, oX0 bc 0 0 0 0 0 0 0 0 0 0), (b 0, oX4 br 0 (-1) 0 0 0), (br 2, oX8 bt 0)]) hP hD hS hA [4, 5] [0, 1, 2, 3] rfl rfl rfl (by decide) (va_runVN (As := []) (rest := []) ⟨hx, hb, hml, hown, hts⟩ (f_X5_many l G cI cJ cZ cB cQ _ (b 8) bw) ⟨va_cnB (host := "WidowRoads") 0 hts (gW w_1145) rfl rfl rfl (nz_nw hZ nw_1142 rfl) (hts _ w_9) hd_X5_many ⟨Nat.le_of_ble_eq_true rfl, Nat.le_of_ble_eq_true rfl⟩, (hts _ w_1144), (hts _ wp_78)⟩ (mV hK hZ hP hD [4, 5] rfl rfl [] 4 5 rfl rfl) rfl rfl hl.1 rfl (lv_room (Nat.le_of_ble_eq_true rfl)) dX9_count_159 ⟨Nat.le_of_ble_eq_true rfl, Nat.le_of_ble_eq_true rfl⟩) (fun r2 u3 H locs hw4 hP hD hS => ?_)
    try dsimp only at hw4
    have hP : va_P G vwCl [(h0, oX9 b), (b 1, oX0 bc 0 0 0 0 0 0 0 0 0 0), (b 0, oX4 br 0 (-1) 0 0 0), (br 2, oX8 bt 0), (b 8, oX5 bw), (bw 1, .inl (cZ, 4, .inl (fun _ => 0)))] H := hP
    have hD : va_D A [(h0, oX9 b), (b 1, oX0 bc 0 0 0 0 0 0 0 0 0 0), (b 0, oX4 br 0 (-1) 0 0 0), (br 2, oX8 bt 0), (b 8, oX5 bw), (bw 1, .inl (cZ, 4, .inl (fun _ => 0)))] := hD
    obtain rfl : r2 = 0 := hw4
    exact hret _ _ _ _ 0 () hP hD hS dX9_count_162 (by (repeat' split) <;> first | exact rfl | (exfalso; omega))
set_option maxHeartbeats 4000000 in
set_option maxRecDepth 100000 in
theorem f_X9_row (l : Launch) (G : va_G) (cI cJ cZ cB cQ : ClassId) (sz : Nat) (h0 : Nat) (b : Nat → Nat) (bw : Nat → Nat) (p0 : Int32) (p1 : Int32) (p2 : Int32) : CI l yX9_row (wl_ yX9_row cX9_row 4 (some .int)) ({ frames := 1, cells := 0, slots := 0, locals := 24 } : Room) G (TY cI cJ cZ cB cQ) [.ref h0, .int p0, .int p1, .int p2] [(h0, oX9 b), (b 8, oX5 bw), (bw 0, .inl (cJ, 240, .inr (.inl (fun _ => 0)))), (bw 1, .inl (cZ, 4, .inl (fun _ => 0))), (bw 2, .inl (cI, 4, .inl (fun _ => 0))), (bw 3, .inl (cI, 4, .inl (fun _ => 0)))] sz (fun (r : Int32) (u : (Nat → Int32) × (Nat → Int32) × (Nat → Int32)) => r = if p0.toInt < 0 ∨ 3 < p0.toInt ∨ p1.toInt < 0 ∨ 3 < p1.toInt ∨ 60 < p2.toInt then -2 else if p2.toInt < 0 then -3 else 0) (fun u : (Nat → Int32) × (Nat → Int32) × (Nat → Int32) => [(h0, oX9 b), (b 8, oX5 bw), (bw 0, .inl (cJ, 240, .inr (.inl (fun _ => 0)))), (bw 1, .inl (cZ, 4, .inl u.1)), (bw 2, .inl (cI, 4, .inl u.2.1)), (bw 3, .inl (cI, 4, .inl u.2.2))]) 0 0 := by
  refine CI.go (cc := cX9_row) (maxL := 4) (ret := (some .int)) (by decide) rfl (Nat.le_of_ble_eq_true rfl) ?_
  intro p e s m below meth c A ls Q hBd hret
  obtain ⟨hx, hb, hr, hml, hts, hown, hlk, hnm, hP, hK, hD, hA, hZ, hl⟩ := hBd
  have hown : s.vm.findClass RX9 = some m.cls := hown
  have hl : lv_has ls 4 [(0, .ref h0), (1, .int p0), (2, .int p1), (3, .int p2)] := hl
  have hS : va_S A s.heap s.heap [] := va_S.rf
  refine lv_iload_n hx hb dX9_row_0 rfl (lv_at hl 1 rfl) ?_
  refine k_i (wc := []) (wr := [(h0, oX9 b), (b 8, oX5 bw), (bw 0, .inl (cJ, 240, .inr (.inl (fun _ => 0)))), (bw 1, .inl (cZ, 4, .inl (fun _ => 0))), (bw 2, .inl (cI, 4, .inl (fun _ => 0))), (bw 3, .inl (cI, 4, .inl (fun _ => 0)))]) hP hD hS hA [] [0, 1, 2, 3, 4, 5] rfl rfl rfl (by decide) (va_runS (As := [.int p0]) (rest := []) ⟨hx, hb, hml, hown, hts⟩ (f_X9_isSlot l G cI cJ cZ cB cQ _ p0 p0.toInt rfl) (va_cwS 1 hts (gS w_951 w_952 w_1 w_953) rfl rfl rfl hd_X9_isSlot ⟨Nat.le_of_ble_eq_true rfl, Nat.le_of_ble_eq_true rfl⟩) (mS hK hZ hP hD [] rfl rfl [.int p0]) rfl rfl hl.1 rfl (lv_room (Nat.le_of_ble_eq_true rfl)) dX9_row_1 ⟨Nat.le_of_ble_eq_true rfl, Nat.le_of_ble_eq_true rfl⟩) (fun r1 u2 H locs hw3 hP hD hS => ?_)
  try dsimp only at hw3
  have hP : va_P G vwCl [(h0, oX9 b), (b 8, oX5 bw), (bw 0, .inl (cJ, 240, .inr (.inl (fun _ => 0)))), (bw 1, .inl (cZ, 4, .inl (fun _ => 0))), (bw 2, .inl (cI, 4, .inl (fun _ => 0))), (bw 3, .inl (cI, 4, .inl (fun _ => 0)))] H := hP
  have hD : va_D A [(h0, oX9 b), (b 8, oX5 bw), (bw 0, .inl (cJ, 240, .inr (.inl (fun _ => 0)))), (bw 1, .inl (cZ, 4, .inl (fun _ => 0))), (bw 2, .inl (cI, 4, .inl (fun _ => 0))), (bw 3, .inl (cI, 4, .inl (fun _ => 0)))] := hD
  rcases hw3 with ⟨rfl, a4, b5⟩ | ⟨rfl, a4⟩
  · skip
    refine lv_if_eq (tgt := 22) hx hb dX9_row_4 (by decide) (fun c6 => absurd c6 (by decide)) (fun c6 => ?_)
    refine lv_iload_n hx hb dX9_row_7 rfl (lv_at hl 2 rfl) ?_
    refine lv_if_lt (tgt := 22) hx hb dX9_row_8 (by decide) (fun c7 => ?_) (fun c7 => ?_)
    · have c7 := i_lt rfl ki_0 c7
      refine lv_bipush (v := (-2)) hx hb dX9_row_22 (by decide) ?_
      exact hret _ _ _ _ (-2) ((fun _ => 0), (fun _ => 0), (fun _ => 0)) hP hD hS dX9_row_24 (by (repeat' split) <;> first | exact rfl | (exfalso; omega))
    · have c7 := i_nlt rfl ki_0 c7
      refine lv_iload_n hx hb dX9_row_11 rfl (lv_at hl 2 rfl) ?_
      refine lv_iconst (v := 3) hx hb dX9_row_12 (by decide) ?_
      refine lv_icmp_gt (tgt := 22) hx hb dX9_row_13 (by decide) (fun c8 => ?_) (fun c8 => ?_)
      · have c8 := i_lt ki_3 rfl c8
        refine lv_bipush (v := (-2)) hx hb dX9_row_22 (by decide) ?_
        exact hret _ _ _ _ (-2) ((fun _ => 0), (fun _ => 0), (fun _ => 0)) hP hD hS dX9_row_24 (by (repeat' split) <;> first | exact rfl | (exfalso; omega))
      · have c8 := i_nlt ki_3 rfl c8
        refine lv_iload_n hx hb dX9_row_16 rfl (lv_at hl 3 rfl) ?_
        refine lv_bipush (v := 60) hx hb dX9_row_17 (by decide) ?_
        refine lv_icmp_le (tgt := 25) hx hb dX9_row_19 (by decide) (fun c9 => ?_) (fun c9 => ?_)
        · have c9 := i_le rfl ki_60 c9
          refine lv_iload_n hx hb dX9_row_25 rfl (lv_at hl 3 rfl) ?_
          refine lv_if_ge (tgt := 32) hx hb dX9_row_26 (by decide) (fun c10 => ?_) (fun c10 => ?_)
          · have c10 := i_le ki_0 rfl c10
            refine lv_aload_n hx hb dX9_row_32 rfl (lv_at hl 0 rfl) ?_
            refine va_get (D := G) (ci := 9) (v := .ref (b 8)) (C := RX9) (T := TX9) (N := 11) hx hb hts iG_X9 hown hK hP 0 rfl rfl 8 (by decide) (hts _ w_359) (fun _ h9 => h9) rfl dX9_row_33 ?_
            refine lv_iload_n hx hb dX9_row_36 rfl (lv_at hl 1 rfl) ?_
            refine lv_iload_n hx hb dX9_row_37 rfl (lv_at hl 2 rfl) ?_
            refine lv_iload_n hx hb dX9_row_38 rfl (lv_at hl 3 rfl) ?_
            refine k_v (wc := [(b 8, oX5 bw), (bw 0, .inl (cJ, 240, .inr (.inl (fun _ => 0)))), (bw 1, .inl (cZ, 4, .inl (fun _ => 0))), (bw 2, .inl (cI, 4, .inl (fun _ => 0))), (bw 3, .inl (cI, 4, .inl (fun _ => 0)))]) (wr := [(h0, oX9 b)]) hP hD hS hA [1, 2, 3, 4, 5] [0] rfl rfl rfl (by decide) (va_runVN (As := [.int p0, .int p1, .int p2]) (rest := []) ⟨hx, hb, hml, hown, hts⟩ (f_X5_clear l G cI cJ cZ cB cQ _ (b 8) bw p0 p1 p2 (by omega) (by omega)) ⟨va_cnB (host := "WidowRoads") 3 hts (gW w_1162) rfl rfl rfl (nz_nw hZ nw_1159 rfl) (hts _ w_9) hd_X5_clear ⟨Nat.le_of_ble_eq_true rfl, Nat.le_of_ble_eq_true rfl⟩, (hts _ w_1161), (hts _ wp_79)⟩ (mV hK hZ hP hD [1, 2, 3, 4, 5] rfl rfl [.int p0, .int p1, .int p2] 1 5 rfl rfl) rfl rfl hl.1 rfl (lv_room (Nat.le_of_ble_eq_true rfl)) dX9_row_39 ⟨Nat.le_of_ble_eq_true rfl, Nat.le_of_ble_eq_true rfl⟩) (fun u12 H locs hw13 hP hD hS => ?_)
            obtain ⟨f114, f215, f316⟩ := u12
            have hP : va_P G vwCl [(h0, oX9 b), (b 8, oX5 bw), (bw 0, .inl (cJ, 240, .inr (.inl (fun _ => 0)))), (bw 1, .inl (cZ, 4, .inl f114)), (bw 2, .inl (cI, 4, .inl f215)), (bw 3, .inl (cI, 4, .inl f316))] H := hP
            have hD : va_D A [(h0, oX9 b), (b 8, oX5 bw), (bw 0, .inl (cJ, 240, .inr (.inl (fun _ => 0)))), (bw 1, .inl (cZ, 4, .inl f114)), (bw 2, .inl (cI, 4, .inl f215)), (bw 3, .inl (cI, 4, .inl f316))] := hD
            refine lv_iconst (v := 0) hx hb dX9_row_42 (by decide) ?_
            exact hret _ _ _ _ 0 (f114, f215, f316) hP hD hS dX9_row_43 (by (repeat' split) <;> first | exact rfl | (exfalso; omega))
          · have c10 := i_nle ki_0 rfl c10
            refine lv_bipush (v := (-3)) hx hb dX9_row_29 (by decide) ?_
            exact hret _ _ _ _ (-3) ((fun _ => 0), (fun _ => 0), (fun _ => 0)) hP hD hS dX9_row_31 (by (repeat' split) <;> first | exact rfl | (exfalso; omega))
        · have c9 := i_nle rfl ki_60 c9
          refine lv_bipush (v := (-2)) hx hb dX9_row_22 (by decide) ?_
          exact hret _ _ _ _ (-2) ((fun _ => 0), (fun _ => 0), (fun _ => 0)) hP hD hS dX9_row_24 (by (repeat' split) <;> first | exact rfl | (exfalso; omega))
  · skip
    refine lv_if_eq (tgt := 22) hx hb dX9_row_4 (by decide) (fun c17 => ?_) (fun c17 => absurd (by decide) c17)
    refine lv_bipush (v := (-2)) hx hb dX9_row_22 (by decide) ?_
    exact hret _ _ _ _ (-2) ((fun _ => 0), (fun _ => 0), (fun _ => 0)) hP hD hS dX9_row_24 (by (repeat' split) <;> first | exact rfl | (exfalso; omega))
set_option maxHeartbeats 4000000 in
set_option maxRecDepth 100000 in
theorem f_X9_write (l : Launch) (G : va_G) (cI cJ cZ cB cQ : ClassId) (sz : Nat) (h0 : Nat) (b : Nat → Nat) (bw : Nat → Nat) (p0 : Int32) (p1 : Int32) (p2 : Int64) : CI l yX9_write (wl_ yX9_write cX9_write 5 (some .int)) ({ frames := 1, cells := 0, slots := 0, locals := 21 } : Room) G (TY cI cJ cZ cB cQ) [.ref h0, .int p0, .int p1, .long p2] [(h0, oX9 b), (b 8, oX5 bw), (bw 1, .inl (cZ, 4, .inl (fun _ => 0)))] sz (fun (r : Int32) (u : Unit) => r = if 0 ≤ p0.toInt ∧ p0.toInt ≤ 3 then -6 else -2) (fun _ : Unit => [(h0, oX9 b), (b 8, oX5 bw), (bw 1, .inl (cZ, 4, .inl (fun _ => 0)))]) 0 0 := by
  refine CI.go (cc := cX9_write) (maxL := 5) (ret := (some .int)) (by decide) rfl (Nat.le_of_ble_eq_true rfl) ?_
  intro p e s m below meth c A ls Q hBd hret
  obtain ⟨hx, hb, hr, hml, hts, hown, hlk, hnm, hP, hK, hD, hA, hZ, hl⟩ := hBd
  have hown : s.vm.findClass RX9 = some m.cls := hown
  have hl : lv_has ls 5 [(0, .ref h0), (1, .int p0), (2, .int p1), (3, .long p2)] := hl
  have hS : va_S A s.heap s.heap [] := va_S.rf
  refine lv_iload_n hx hb dX9_write_0 rfl (lv_at hl 1 rfl) ?_
  refine k_i (wc := []) (wr := [(h0, oX9 b), (b 8, oX5 bw), (bw 1, .inl (cZ, 4, .inl (fun _ => 0)))]) hP hD hS hA [] [0, 1, 2] rfl rfl rfl (by decide) (va_runS (As := [.int p0]) (rest := []) ⟨hx, hb, hml, hown, hts⟩ (f_X9_isSlot l G cI cJ cZ cB cQ _ p0 p0.toInt rfl) (va_cwS 1 hts (gS w_951 w_952 w_1 w_953) rfl rfl rfl hd_X9_isSlot ⟨Nat.le_of_ble_eq_true rfl, Nat.le_of_ble_eq_true rfl⟩) (mS hK hZ hP hD [] rfl rfl [.int p0]) rfl rfl hl.1 rfl (lv_room (Nat.le_of_ble_eq_true rfl)) dX9_write_1 ⟨Nat.le_of_ble_eq_true rfl, Nat.le_of_ble_eq_true rfl⟩) (fun r1 u2 H locs hw3 hP hD hS => ?_)
  try dsimp only at hw3
  have hP : va_P G vwCl [(h0, oX9 b), (b 8, oX5 bw), (bw 1, .inl (cZ, 4, .inl (fun _ => 0)))] H := hP
  have hD : va_D A [(h0, oX9 b), (b 8, oX5 bw), (bw 1, .inl (cZ, 4, .inl (fun _ => 0)))] := hD
  rcases hw3 with ⟨rfl, a4, b5⟩ | ⟨rfl, a4⟩
  · skip
    refine lv_if_ne (tgt := 10) hx hb dX9_write_4 (by decide) (fun c6 => ?_) (fun c6 => absurd c6 (by decide))
    refine lv_aload_n hx hb dX9_write_10 rfl (lv_at hl 0 rfl) ?_
    refine va_get (D := G) (ci := 9) (v := .ref (b 8)) (C := RX9) (T := TX9) (N := 11) hx hb hts iG_X9 hown hK hP 0 rfl rfl 8 (by decide) (hts _ w_359) (fun _ h9 => h9) rfl dX9_write_11 ?_
    refine lv_iload_n hx hb dX9_write_14 rfl (lv_at hl 1 rfl) ?_
    refine k_i (wc := [(b 8, oX5 bw), (bw 1, .inl (cZ, 4, .inl (fun _ => 0)))]) (wr := [(h0, oX9 b)]) hP hD hS hA [1, 2] [0] rfl rfl rfl (by decide) (va_runVN (As := [.int p0]) (rest := []) ⟨hx, hb, hml, hown, hts⟩ (f_X5_empty l G cI cJ cZ cB cQ _ (b 8) bw p0 (by omega) (by omega)) ⟨va_cnB (host := "WidowRoads") 1 hts (gW w_957) rfl rfl rfl (nz_nw hZ nw_954 rfl) (hts _ w_9) hd_X5_empty ⟨Nat.le_of_ble_eq_true rfl, Nat.le_of_ble_eq_true rfl⟩, (hts _ w_956), (hts _ wp_60)⟩ (mV hK hZ hP hD [1, 2] rfl rfl [.int p0] 1 5 rfl rfl) rfl rfl hl.1 rfl (lv_room (Nat.le_of_ble_eq_true rfl)) dX9_write_15 ⟨Nat.le_of_ble_eq_true rfl, Nat.le_of_ble_eq_true rfl⟩) (fun r7 u8 H locs hw9 hP hD hS => ?_)
    try dsimp only at hw9
    have hP : va_P G vwCl [(h0, oX9 b), (b 8, oX5 bw), (bw 1, .inl (cZ, 4, .inl (fun _ => 0)))] H := hP
    have hD : va_D A [(h0, oX9 b), (b 8, oX5 bw), (bw 1, .inl (cZ, 4, .inl (fun _ => 0)))] := hD
    obtain rfl : r7 = 1 := hw9
    refine lv_if_eq (tgt := 24) hx hb dX9_write_18 (by decide) (fun c10 => absurd c10 (by decide)) (fun c10 => ?_)
    refine lv_bipush (v := (-6)) hx hb dX9_write_21 (by decide) ?_
    exact hret _ _ _ _ (-6) () hP hD hS dX9_write_23 (by (repeat' split) <;> first | exact rfl | (exfalso; omega))
  · skip
    refine lv_if_ne (tgt := 10) hx hb dX9_write_4 (by decide) (fun c11 => absurd (by decide) c11) (fun c11 => ?_)
    refine lv_bipush (v := (-2)) hx hb dX9_write_7 (by decide) ?_
    exact hret _ _ _ _ (-2) () hP hD hS dX9_write_9 (by (repeat' split) <;> first | exact rfl | (exfalso; omega))
set_option maxHeartbeats 4000000 in
set_option maxRecDepth 100000 in
theorem f_X9_paste (l : Launch) (G : va_G) (cI cJ cZ cB cQ : ClassId) (sz : Nat) (h0 : Nat) (b : Nat → Nat) (bw : Nat → Nat) (p0 : Int32) (p1 : Int32) (p2 : Int32) (p3 : Int32) (p4 : Int32) : CI l yX9_paste (wl_ yX9_paste cX9_paste 6 (some .int)) ({ frames := 1, cells := 0, slots := 0, locals := 21 } : Room) G (TY cI cJ cZ cB cQ) [.ref h0, .int p0, .int p1, .int p2, .int p3, .int p4] [(h0, oX9 b), (b 8, oX5 bw), (bw 1, .inl (cZ, 4, .inl (fun _ => 0)))] sz (fun (r : Int32) (u : Unit) => r = if (0 ≤ p0.toInt ∧ p0.toInt ≤ 3) ∧ (0 ≤ p2.toInt ∧ p2.toInt ≤ 3) then -6 else -2) (fun _ : Unit => [(h0, oX9 b), (b 8, oX5 bw), (bw 1, .inl (cZ, 4, .inl (fun _ => 0)))]) 0 0 := by
  refine CI.go (cc := cX9_paste) (maxL := 6) (ret := (some .int)) (by decide) rfl (Nat.le_of_ble_eq_true rfl) ?_
  intro p e s m below meth c A ls Q hBd hret
  obtain ⟨hx, hb, hr, hml, hts, hown, hlk, hnm, hP, hK, hD, hA, hZ, hl⟩ := hBd
  have hown : s.vm.findClass RX9 = some m.cls := hown
  have hl : lv_has ls 6 [(0, .ref h0), (1, .int p0), (2, .int p1), (3, .int p2), (4, .int p3), (5, .int p4)] := hl
  have hS : va_S A s.heap s.heap [] := va_S.rf
  refine lv_iload_n hx hb dX9_paste_0 rfl (lv_at hl 1 rfl) ?_
  refine k_i (wc := []) (wr := [(h0, oX9 b), (b 8, oX5 bw), (bw 1, .inl (cZ, 4, .inl (fun _ => 0)))]) hP hD hS hA [] [0, 1, 2] rfl rfl rfl (by decide) (va_runS (As := [.int p0]) (rest := []) ⟨hx, hb, hml, hown, hts⟩ (f_X9_isSlot l G cI cJ cZ cB cQ _ p0 p0.toInt rfl) (va_cwS 1 hts (gS w_951 w_952 w_1 w_953) rfl rfl rfl hd_X9_isSlot ⟨Nat.le_of_ble_eq_true rfl, Nat.le_of_ble_eq_true rfl⟩) (mS hK hZ hP hD [] rfl rfl [.int p0]) rfl rfl hl.1 rfl (lv_room (Nat.le_of_ble_eq_true rfl)) dX9_paste_1 ⟨Nat.le_of_ble_eq_true rfl, Nat.le_of_ble_eq_true rfl⟩) (fun r1 u2 H locs hw3 hP hD hS => ?_)
  try dsimp only at hw3
  have hP : va_P G vwCl [(h0, oX9 b), (b 8, oX5 bw), (bw 1, .inl (cZ, 4, .inl (fun _ => 0)))] H := hP
  have hD : va_D A [(h0, oX9 b), (b 8, oX5 bw), (bw 1, .inl (cZ, 4, .inl (fun _ => 0)))] := hD
  rcases hw3 with ⟨rfl, a4, b5⟩ | ⟨rfl, a4⟩
  · skip
    refine lv_if_eq (tgt := 14) hx hb dX9_paste_4 (by decide) (fun c6 => absurd c6 (by decide)) (fun c6 => ?_)
    refine lv_iload_n hx hb dX9_paste_7 rfl (lv_at hl 3 rfl) ?_
    refine k_i (wc := []) (wr := [(h0, oX9 b), (b 8, oX5 bw), (bw 1, .inl (cZ, 4, .inl (fun _ => 0)))]) hP hD hS hA [] [0, 1, 2] rfl rfl rfl (by decide) (va_runS (As := [.int p2]) (rest := []) ⟨hx, hb, hml, hown, hts⟩ (f_X9_isSlot l G cI cJ cZ cB cQ _ p2 p2.toInt rfl) (va_cwS 1 hts (gS w_951 w_952 w_1 w_953) rfl rfl rfl hd_X9_isSlot ⟨Nat.le_of_ble_eq_true rfl, Nat.le_of_ble_eq_true rfl⟩) (mS hK hZ hP hD [] rfl rfl [.int p2]) rfl rfl hl.1 rfl (lv_room (Nat.le_of_ble_eq_true rfl)) dX9_paste_8 ⟨Nat.le_of_ble_eq_true rfl, Nat.le_of_ble_eq_true rfl⟩) (fun r7 u8 H locs hw9 hP hD hS => ?_)
    try dsimp only at hw9
    have hP : va_P G vwCl [(h0, oX9 b), (b 8, oX5 bw), (bw 1, .inl (cZ, 4, .inl (fun _ => 0)))] H := hP
    have hD : va_D A [(h0, oX9 b), (b 8, oX5 bw), (bw 1, .inl (cZ, 4, .inl (fun _ => 0)))] := hD
    rcases hw9 with ⟨rfl, a10, b11⟩ | ⟨rfl, a10⟩
    · skip
      refine lv_if_ne (tgt := 17) hx hb dX9_paste_11 (by decide) (fun c12 => ?_) (fun c12 => absurd c12 (by decide))
      refine lv_aload_n hx hb dX9_paste_17 rfl (lv_at hl 0 rfl) ?_
      refine va_get (D := G) (ci := 9) (v := .ref (b 8)) (C := RX9) (T := TX9) (N := 11) hx hb hts iG_X9 hown hK hP 0 rfl rfl 8 (by decide) (hts _ w_359) (fun _ h9 => h9) rfl dX9_paste_18 ?_
      refine lv_iload_n hx hb dX9_paste_21 rfl (lv_at hl 1 rfl) ?_
      refine k_i (wc := [(b 8, oX5 bw), (bw 1, .inl (cZ, 4, .inl (fun _ => 0)))]) (wr := [(h0, oX9 b)]) hP hD hS hA [1, 2] [0] rfl rfl rfl (by decide) (va_runVN (As := [.int p0]) (rest := []) ⟨hx, hb, hml, hown, hts⟩ (f_X5_empty l G cI cJ cZ cB cQ _ (b 8) bw p0 (by omega) (by omega)) ⟨va_cnB (host := "WidowRoads") 1 hts (gW w_957) rfl rfl rfl (nz_nw hZ nw_954 rfl) (hts _ w_9) hd_X5_empty ⟨Nat.le_of_ble_eq_true rfl, Nat.le_of_ble_eq_true rfl⟩, (hts _ w_956), (hts _ wp_60)⟩ (mV hK hZ hP hD [1, 2] rfl rfl [.int p0] 1 5 rfl rfl) rfl rfl hl.1 rfl (lv_room (Nat.le_of_ble_eq_true rfl)) dX9_paste_22 ⟨Nat.le_of_ble_eq_true rfl, Nat.le_of_ble_eq_true rfl⟩) (fun r13 u14 H locs hw15 hP hD hS => ?_)
      try dsimp only at hw15
      have hP : va_P G vwCl [(h0, oX9 b), (b 8, oX5 bw), (bw 1, .inl (cZ, 4, .inl (fun _ => 0)))] H := hP
      have hD : va_D A [(h0, oX9 b), (b 8, oX5 bw), (bw 1, .inl (cZ, 4, .inl (fun _ => 0)))] := hD
      obtain rfl : r13 = 1 := hw15
      refine lv_if_ne (tgt := 39) hx hb dX9_paste_25 (by decide) (fun c16 => ?_) (fun c16 => absurd c16 (by decide))
      refine lv_bipush (v := (-6)) hx hb dX9_paste_39 (by decide) ?_
      exact hret _ _ _ _ (-6) () hP hD hS dX9_paste_41 (by (repeat' split) <;> first | exact rfl | (exfalso; omega))
    · skip
      refine lv_if_ne (tgt := 17) hx hb dX9_paste_11 (by decide) (fun c17 => absurd (by decide) c17) (fun c17 => ?_)
      refine lv_bipush (v := (-2)) hx hb dX9_paste_14 (by decide) ?_
      exact hret _ _ _ _ (-2) () hP hD hS dX9_paste_16 (by (repeat' split) <;> first | exact rfl | (exfalso; omega))
  · skip
    refine lv_if_eq (tgt := 14) hx hb dX9_paste_4 (by decide) (fun c18 => ?_) (fun c18 => absurd (by decide) c18)
    refine lv_bipush (v := (-2)) hx hb dX9_paste_14 (by decide) ?_
    exact hret _ _ _ _ (-2) () hP hD hS dX9_paste_16 (by (repeat' split) <;> first | exact rfl | (exfalso; omega))
set_option maxHeartbeats 4000000 in
set_option maxRecDepth 100000 in
theorem f_X9_image (l : Launch) (G : va_G) (cI cJ cZ cB cQ : ClassId) (sz : Nat) (h0 : Nat) (b : Nat → Nat) (bc : Nat → Nat) (p0 : Int32) : CI l yX9_image (wl_ yX9_image cX9_image 2 (some .int)) ({ frames := 2, cells := 10, slots := 158, locals := 61 } : Room) G (TY cI cJ cZ cB cQ) [.ref h0, .int p0] [(h0, oX9 b), (b 1, oX0 bc 0 0 0 0 0 0 0 0 0 0), (bc 10, .inl (cI, 12, .inl (fun _ => 0))), (bc 11, .inl (cI, 6, .inl (fun _ => 0))), (bc 12, .inl (cI, 7, .inl (fun _ => 0))), (bc 13, .inl (cI, 7, .inl (fun _ => 0))), (bc 14, .inl (cI, 7, .inl (fun _ => 0))), (bc 15, .inl (cI, 7, .inl (fun _ => 0))), (bc 16, .inl (cI, 7, .inl (fun _ => 0))), (bc 17, .inl (cI, 56, .inl (fun _ => 0))), (bc 18, .inl (cI, 30, .inl (fun _ => 0))), (b 2, .inl (cQ, 3, .inr (.inr (.inr (.inr (fun _ => none))))))] sz (fun (r : Int32) (u : (Nat → Option Nat)) => (r = if 0 ≤ p0.toInt ∧ p0.toInt ≤ 2 then 0 else -2)) (fun u : (Nat → Option Nat) => [(h0, oX9 b), (b 1, oX0 bc 0 0 0 0 0 0 0 0 0 0), (bc 10, .inl (cI, 12, .inl (fun _ => 0))), (bc 11, .inl (cI, 6, .inl (fun _ => 0))), (bc 12, .inl (cI, 7, .inl (fun _ => 0))), (bc 13, .inl (cI, 7, .inl (fun _ => 0))), (bc 14, .inl (cI, 7, .inl (fun _ => 0))), (bc 15, .inl (cI, 7, .inl (fun _ => 0))), (bc 16, .inl (cI, 7, .inl (fun _ => 0))), (bc 17, .inl (cI, 56, .inl (fun _ => 0))), (bc 18, .inl (cI, 30, .inl (fun _ => 0))), (b 2, .inl (cQ, 3, .inr (.inr (.inr (.inr u)))))]) 10 158 := by
  refine CI.go (cc := cX9_image) (maxL := 2) (ret := (some .int)) (by decide) rfl (Nat.le_of_ble_eq_true rfl) ?_
  intro p e s m below meth c A ls Q hBd hret
  obtain ⟨hx, hb, hr, hml, hts, hown, hlk, hnm, hP, hK, hD, hA, hZ, hl⟩ := hBd
  have hown : s.vm.findClass RX9 = some m.cls := hown
  have hl : lv_has ls 2 [(0, .ref h0), (1, .int p0)] := hl
  have hS : va_S A s.heap s.heap [] := va_S.rf
  refine lv_iload_n hx hb dX9_image_0 rfl (lv_at hl 1 rfl) ?_
  refine lv_if_lt (tgt := 9) hx hb dX9_image_1 (by decide) (fun c1 => ?_) (fun c1 => ?_)
  · have c1 := i_lt rfl ki_0 c1
    refine lv_bipush (v := (-2)) hx hb dX9_image_9 (by decide) ?_
    refine W.widen (k := 10) (n := 158) (by decide) (by decide) ?_
    exact hret _ _ _ _ (-2) (fun _ => none) hP hD hS dX9_image_11 (by (repeat' split) <;> first | exact rfl | (exfalso; omega))
  · have c1 := i_nlt rfl ki_0 c1
    refine lv_iload_n hx hb dX9_image_4 rfl (lv_at hl 1 rfl) ?_
    refine lv_iconst (v := 3) hx hb dX9_image_5 (by decide) ?_
    refine lv_icmp_lt (tgt := 12) hx hb dX9_image_6 (by decide) (fun c2 => ?_) (fun c2 => ?_)
    · have c2 := i_lt rfl ki_3 c2
      refine lv_aload_n hx hb dX9_image_12 rfl (lv_at hl 0 rfl) ?_
      refine va_get (D := G) (ci := 9) (v := .ref (b 2)) (C := RX9) (T := TX9) (N := 11) hx hb hts iG_X9 hown hK hP 0 rfl rfl 2 (by decide) (hts _ w_353) (fun _ h9 => h9) rfl dX9_image_13 ?_
      refine lv_iload_n hx hb dX9_image_16 rfl (lv_at hl 1 rfl) ?_
      refine va_aldq hx hb hK hP 11 4 rfl rfl (ix_in rfl (by omega) (by omega)) dX9_image_17 ?_
      refine W.eq (g2 := F0 m 18 ls [.null]) rfl ?_
      refine lv_ifnonnullN hx hb dX9_image_18 ?_
      refine lv_aload_n hx hb dX9_image_21 rfl (lv_at hl 0 rfl) ?_
      refine va_get (D := G) (ci := 9) (v := .ref (b 2)) (C := RX9) (T := TX9) (N := 11) hx hb hts iG_X9 hown hK hP 0 rfl rfl 2 (by decide) (hts _ w_353) (fun _ h9 => h9) rfl dX9_image_22 ?_
      refine lv_iload_n hx hb dX9_image_25 rfl (lv_at hl 1 rfl) ?_
      refine va_new (ci := 0) (fs := [.int 0, .int 0, .int 0, .int 0, .int 0, .int 0, .int 0, .int 0, .int 0, .int 0, .null, .null, .null, .null, .null, .null, .null, .null, .null]) (C := RX0) (T := TX0) (N := 19) hx hb hts iG_X0 tyX0 tyX0_ok hown (hts _ w_189) (hts _ w_50) (hts _ w_4) hK hP hD hS hA rfl (nf_X0) (Nat.le_of_ble_eq_true rfl) (Nat.le_of_ble_eq_true rfl) dX9_image_26 (fun q3 H hP hD hS => ?_)
      have hP : va_P G vwCl [(h0, oX9 b), (b 1, oX0 bc 0 0 0 0 0 0 0 0 0 0), (bc 10, .inl (cI, 12, .inl (fun _ => 0))), (bc 11, .inl (cI, 6, .inl (fun _ => 0))), (bc 12, .inl (cI, 7, .inl (fun _ => 0))), (bc 13, .inl (cI, 7, .inl (fun _ => 0))), (bc 14, .inl (cI, 7, .inl (fun _ => 0))), (bc 15, .inl (cI, 7, .inl (fun _ => 0))), (bc 16, .inl (cI, 7, .inl (fun _ => 0))), (bc 17, .inl (cI, 56, .inl (fun _ => 0))), (bc 18, .inl (cI, 30, .inl (fun _ => 0))), (b 2, .inl (cQ, 3, .inr (.inr (.inr (.inr (fun _ => none)))))), (q3, .inr (0, [.int 0, .int 0, .int 0, .int 0, .int 0, .int 0, .int 0, .int 0, .int 0, .int 0, .null, .null, .null, .null, .null, .null, .null, .null, .null]))] H := hP
      have hD : va_D A [(h0, oX9 b), (b 1, oX0 bc 0 0 0 0 0 0 0 0 0 0), (bc 10, .inl (cI, 12, .inl (fun _ => 0))), (bc 11, .inl (cI, 6, .inl (fun _ => 0))), (bc 12, .inl (cI, 7, .inl (fun _ => 0))), (bc 13, .inl (cI, 7, .inl (fun _ => 0))), (bc 14, .inl (cI, 7, .inl (fun _ => 0))), (bc 15, .inl (cI, 7, .inl (fun _ => 0))), (bc 16, .inl (cI, 7, .inl (fun _ => 0))), (bc 17, .inl (cI, 56, .inl (fun _ => 0))), (bc 18, .inl (cI, 30, .inl (fun _ => 0))), (b 2, .inl (cQ, 3, .inr (.inr (.inr (.inr (fun _ => none)))))), (q3, .inr (0, [.int 0, .int 0, .int 0, .int 0, .int 0, .int 0, .int 0, .int 0, .int 0, .int 0, .null, .null, .null, .null, .null, .null, .null, .null, .null]))] := hD
      refine lv_dup hx hb dX9_image_29 rfl ?_
      refine k_v (wc := [(q3, .inr (0, [.int 0, .int 0, .int 0, .int 0, .int 0, .int 0, .int 0, .int 0, .int 0, .int 0, .null, .null, .null, .null, .null, .null, .null, .null, .null]))]) (wr := [(h0, oX9 b), (b 1, oX0 bc 0 0 0 0 0 0 0 0 0 0), (bc 10, .inl (cI, 12, .inl (fun _ => 0))), (bc 11, .inl (cI, 6, .inl (fun _ => 0))), (bc 12, .inl (cI, 7, .inl (fun _ => 0))), (bc 13, .inl (cI, 7, .inl (fun _ => 0))), (bc 14, .inl (cI, 7, .inl (fun _ => 0))), (bc 15, .inl (cI, 7, .inl (fun _ => 0))), (bc 16, .inl (cI, 7, .inl (fun _ => 0))), (bc 17, .inl (cI, 56, .inl (fun _ => 0))), (bc 18, .inl (cI, 30, .inl (fun _ => 0))), (b 2, .inl (cQ, 3, .inr (.inr (.inr (.inr (fun _ => none))))))]) hP hD hS hA [12] [0, 1, 2, 3, 4, 5, 6, 7, 8, 9, 10, 11] rfl rfl rfl (by decide) (va_runIN (As := []) (rest := [.ref q3, .int p0, .ref (b 2)]) ⟨hx, hb, hml, hown, hts⟩ (f_X0_init l G cI cJ cZ cB cQ _ q3) ⟨va_cnB (host := "WidowRoads") 0 hts (gW w_53) rfl rfl rfl (nz_nw hZ nw_190 rfl) (hts _ w_4) hd_X0_init ⟨Nat.le_of_ble_eq_true rfl, Nat.le_of_ble_eq_true rfl⟩, rfl, (hts _ w_52)⟩ (mS hK hZ hP hD [12] rfl rfl [.ref q3]) rfl rfl hl.1 rfl (lv_room (Nat.le_of_ble_eq_true rfl)) dX9_image_30 ⟨Nat.le_of_ble_eq_true rfl, Nat.le_of_ble_eq_true rfl⟩) (fun u5 H locs hw6 hP hD hS => ?_)
      obtain ⟨b7, rfl⟩ : ∃ z, z = u5 := ⟨_, rfl⟩
      have hP : va_P G vwCl [(h0, oX9 b), (b 1, oX0 bc 0 0 0 0 0 0 0 0 0 0), (bc 10, .inl (cI, 12, .inl (fun _ => 0))), (bc 11, .inl (cI, 6, .inl (fun _ => 0))), (bc 12, .inl (cI, 7, .inl (fun _ => 0))), (bc 13, .inl (cI, 7, .inl (fun _ => 0))), (bc 14, .inl (cI, 7, .inl (fun _ => 0))), (bc 15, .inl (cI, 7, .inl (fun _ => 0))), (bc 16, .inl (cI, 7, .inl (fun _ => 0))), (bc 17, .inl (cI, 56, .inl (fun _ => 0))), (bc 18, .inl (cI, 30, .inl (fun _ => 0))), (b 2, .inl (cQ, 3, .inr (.inr (.inr (.inr (fun _ => none)))))), (q3, oX0 b7 0 0 0 0 0 0 0 0 0 0), (b7 10, .inl (cI, 12, .inl (fun _ => 0))), (b7 11, .inl (cI, 6, .inl (fun _ => 0))), (b7 12, .inl (cI, 7, .inl (fun _ => 0))), (b7 13, .inl (cI, 7, .inl (fun _ => 0))), (b7 14, .inl (cI, 7, .inl (fun _ => 0))), (b7 15, .inl (cI, 7, .inl (fun _ => 0))), (b7 16, .inl (cI, 7, .inl (fun _ => 0))), (b7 17, .inl (cI, 56, .inl (fun _ => 0))), (b7 18, .inl (cI, 30, .inl (fun _ => 0)))] H := hP
      have hD : va_D A [(h0, oX9 b), (b 1, oX0 bc 0 0 0 0 0 0 0 0 0 0), (bc 10, .inl (cI, 12, .inl (fun _ => 0))), (bc 11, .inl (cI, 6, .inl (fun _ => 0))), (bc 12, .inl (cI, 7, .inl (fun _ => 0))), (bc 13, .inl (cI, 7, .inl (fun _ => 0))), (bc 14, .inl (cI, 7, .inl (fun _ => 0))), (bc 15, .inl (cI, 7, .inl (fun _ => 0))), (bc 16, .inl (cI, 7, .inl (fun _ => 0))), (bc 17, .inl (cI, 56, .inl (fun _ => 0))), (bc 18, .inl (cI, 30, .inl (fun _ => 0))), (b 2, .inl (cQ, 3, .inr (.inr (.inr (.inr (fun _ => none)))))), (q3, oX0 b7 0 0 0 0 0 0 0 0 0 0), (b7 10, .inl (cI, 12, .inl (fun _ => 0))), (b7 11, .inl (cI, 6, .inl (fun _ => 0))), (b7 12, .inl (cI, 7, .inl (fun _ => 0))), (b7 13, .inl (cI, 7, .inl (fun _ => 0))), (b7 14, .inl (cI, 7, .inl (fun _ => 0))), (b7 15, .inl (cI, 7, .inl (fun _ => 0))), (b7 16, .inl (cI, 7, .inl (fun _ => 0))), (b7 17, .inl (cI, 56, .inl (fun _ => 0))), (b7 18, .inl (cI, 30, .inl (fun _ => 0)))] := hD
      refine va_astq hx hb hK hP hD hS 11 4 12 0 rfl rfl rfl rfl (ix_in rfl (by omega) (by omega)) dX9_image_33 (fun H locs hP hD hS => ?_)
      have hP : va_P G vwCl [(h0, oX9 b), (b 1, oX0 bc 0 0 0 0 0 0 0 0 0 0), (bc 10, .inl (cI, 12, .inl (fun _ => 0))), (bc 11, .inl (cI, 6, .inl (fun _ => 0))), (bc 12, .inl (cI, 7, .inl (fun _ => 0))), (bc 13, .inl (cI, 7, .inl (fun _ => 0))), (bc 14, .inl (cI, 7, .inl (fun _ => 0))), (bc 15, .inl (cI, 7, .inl (fun _ => 0))), (bc 16, .inl (cI, 7, .inl (fun _ => 0))), (bc 17, .inl (cI, 56, .inl (fun _ => 0))), (bc 18, .inl (cI, 30, .inl (fun _ => 0))), (b 2, .inl (cQ, 3, .inr (.inr (.inr (.inr (va_up (fun _ => none) p0.toNatClampNeg (some q3))))))), (q3, oX0 b7 0 0 0 0 0 0 0 0 0 0), (b7 10, .inl (cI, 12, .inl (fun _ => 0))), (b7 11, .inl (cI, 6, .inl (fun _ => 0))), (b7 12, .inl (cI, 7, .inl (fun _ => 0))), (b7 13, .inl (cI, 7, .inl (fun _ => 0))), (b7 14, .inl (cI, 7, .inl (fun _ => 0))), (b7 15, .inl (cI, 7, .inl (fun _ => 0))), (b7 16, .inl (cI, 7, .inl (fun _ => 0))), (b7 17, .inl (cI, 56, .inl (fun _ => 0))), (b7 18, .inl (cI, 30, .inl (fun _ => 0)))] H := hP
      have hD : va_D A [(h0, oX9 b), (b 1, oX0 bc 0 0 0 0 0 0 0 0 0 0), (bc 10, .inl (cI, 12, .inl (fun _ => 0))), (bc 11, .inl (cI, 6, .inl (fun _ => 0))), (bc 12, .inl (cI, 7, .inl (fun _ => 0))), (bc 13, .inl (cI, 7, .inl (fun _ => 0))), (bc 14, .inl (cI, 7, .inl (fun _ => 0))), (bc 15, .inl (cI, 7, .inl (fun _ => 0))), (bc 16, .inl (cI, 7, .inl (fun _ => 0))), (bc 17, .inl (cI, 56, .inl (fun _ => 0))), (bc 18, .inl (cI, 30, .inl (fun _ => 0))), (b 2, .inl (cQ, 3, .inr (.inr (.inr (.inr (va_up (fun _ => none) p0.toNatClampNeg (some q3))))))), (q3, oX0 b7 0 0 0 0 0 0 0 0 0 0), (b7 10, .inl (cI, 12, .inl (fun _ => 0))), (b7 11, .inl (cI, 6, .inl (fun _ => 0))), (b7 12, .inl (cI, 7, .inl (fun _ => 0))), (b7 13, .inl (cI, 7, .inl (fun _ => 0))), (b7 14, .inl (cI, 7, .inl (fun _ => 0))), (b7 15, .inl (cI, 7, .inl (fun _ => 0))), (b7 16, .inl (cI, 7, .inl (fun _ => 0))), (b7 17, .inl (cI, 56, .inl (fun _ => 0))), (b7 18, .inl (cI, 30, .inl (fun _ => 0)))] := hD
      refine lv_aload_n hx hb dX9_image_34 rfl (lv_at hl 0 rfl) ?_
      refine va_get (D := G) (ci := 9) (v := .ref (b 2)) (C := RX9) (T := TX9) (N := 11) hx hb hts iG_X9 hown hK hP 0 rfl rfl 2 (by decide) (hts _ w_353) (fun _ h9 => h9) rfl dX9_image_35 ?_
      refine lv_iload_n hx hb dX9_image_38 rfl (lv_at hl 1 rfl) ?_
      refine va_aldq hx hb hK hP 11 4 rfl rfl (ix_in rfl (by omega) (by omega)) dX9_image_39 ?_
      refine W.eq (g2 := F0 m 40 ls [.ref q3]) (by rw [va_up_s]; rfl) ?_
      refine lv_aload_n hx hb dX9_image_40 rfl (lv_at hl 0 rfl) ?_
      refine va_get (D := G) (ci := 9) (v := .ref (b 1)) (C := RX9) (T := TX9) (N := 11) hx hb hts iG_X9 hown hK hP 0 rfl rfl 1 (by decide) (hts _ w_352) (fun _ h9 => h9) rfl dX9_image_41 ?_
      refine k_v (wc := [(q3, oX0 b7 0 0 0 0 0 0 0 0 0 0), (b7 10, .inl (cI, 12, .inl (fun _ => 0))), (b7 11, .inl (cI, 6, .inl (fun _ => 0))), (b7 12, .inl (cI, 7, .inl (fun _ => 0))), (b7 13, .inl (cI, 7, .inl (fun _ => 0))), (b7 14, .inl (cI, 7, .inl (fun _ => 0))), (b7 15, .inl (cI, 7, .inl (fun _ => 0))), (b7 16, .inl (cI, 7, .inl (fun _ => 0))), (b7 17, .inl (cI, 56, .inl (fun _ => 0))), (b7 18, .inl (cI, 30, .inl (fun _ => 0))), (b 1, oX0 bc 0 0 0 0 0 0 0 0 0 0), (bc 10, .inl (cI, 12, .inl (fun _ => 0))), (bc 11, .inl (cI, 6, .inl (fun _ => 0))), (bc 12, .inl (cI, 7, .inl (fun _ => 0))), (bc 13, .inl (cI, 7, .inl (fun _ => 0))), (bc 14, .inl (cI, 7, .inl (fun _ => 0))), (bc 15, .inl (cI, 7, .inl (fun _ => 0))), (bc 16, .inl (cI, 7, .inl (fun _ => 0))), (bc 17, .inl (cI, 56, .inl (fun _ => 0))), (bc 18, .inl (cI, 30, .inl (fun _ => 0)))]) (wr := [(h0, oX9 b), (b 2, .inl (cQ, 3, .inr (.inr (.inr (.inr (va_up (fun _ => none) p0.toNatClampNeg (some q3)))))))]) hP hD hS hA [12, 13, 14, 15, 16, 17, 18, 19, 20, 21, 1, 2, 3, 4, 5, 6, 7, 8, 9, 10] [0, 11] rfl rfl rfl (by decide) (va_runVN (As := [.ref (b 1)]) (rest := []) ⟨hx, hb, hml, hown, hts⟩ (f_X0_become l G cI cJ cZ cB cQ _ q3 b7 (b 1) bc) ⟨va_cnB (host := "WidowRoads") 1 hts (gW w_565) rfl rfl rfl (nz_nw hZ nw_562 rfl) (hts _ w_4) hd_X0_become ⟨Nat.le_of_ble_eq_true rfl, Nat.le_of_ble_eq_true rfl⟩, (hts _ w_564), (hts _ wp_20)⟩ (mV hK hZ hP hD [12, 13, 14, 15, 16, 17, 18, 19, 20, 21, 1, 2, 3, 4, 5, 6, 7, 8, 9, 10] rfl rfl [.ref (b 1)] 12 0 rfl rfl) rfl rfl hl.1 rfl (lv_room (Nat.le_of_ble_eq_true rfl)) dX9_image_44 ⟨Nat.le_of_ble_eq_true rfl, Nat.le_of_ble_eq_true rfl⟩) (fun u9 H locs hw10 hP hD hS => ?_)
      have hP : va_P G vwCl [(h0, oX9 b), (b 2, .inl (cQ, 3, .inr (.inr (.inr (.inr (va_up (fun _ => none) p0.toNatClampNeg (some q3))))))), (q3, oX0 b7 0 0 0 0 0 0 0 0 0 0), (b7 10, .inl (cI, 12, .inl (fun _ => 0))), (b7 11, .inl (cI, 6, .inl (fun _ => 0))), (b7 12, .inl (cI, 7, .inl (fun _ => 0))), (b7 13, .inl (cI, 7, .inl (fun _ => 0))), (b7 14, .inl (cI, 7, .inl (fun _ => 0))), (b7 15, .inl (cI, 7, .inl (fun _ => 0))), (b7 16, .inl (cI, 7, .inl (fun _ => 0))), (b7 17, .inl (cI, 56, .inl (fun _ => 0))), (b7 18, .inl (cI, 30, .inl (fun _ => 0))), (b 1, oX0 bc 0 0 0 0 0 0 0 0 0 0), (bc 10, .inl (cI, 12, .inl (fun _ => 0))), (bc 11, .inl (cI, 6, .inl (fun _ => 0))), (bc 12, .inl (cI, 7, .inl (fun _ => 0))), (bc 13, .inl (cI, 7, .inl (fun _ => 0))), (bc 14, .inl (cI, 7, .inl (fun _ => 0))), (bc 15, .inl (cI, 7, .inl (fun _ => 0))), (bc 16, .inl (cI, 7, .inl (fun _ => 0))), (bc 17, .inl (cI, 56, .inl (fun _ => 0))), (bc 18, .inl (cI, 30, .inl (fun _ => 0)))] H := hP
      have hD : va_D A [(h0, oX9 b), (b 2, .inl (cQ, 3, .inr (.inr (.inr (.inr (va_up (fun _ => none) p0.toNatClampNeg (some q3))))))), (q3, oX0 b7 0 0 0 0 0 0 0 0 0 0), (b7 10, .inl (cI, 12, .inl (fun _ => 0))), (b7 11, .inl (cI, 6, .inl (fun _ => 0))), (b7 12, .inl (cI, 7, .inl (fun _ => 0))), (b7 13, .inl (cI, 7, .inl (fun _ => 0))), (b7 14, .inl (cI, 7, .inl (fun _ => 0))), (b7 15, .inl (cI, 7, .inl (fun _ => 0))), (b7 16, .inl (cI, 7, .inl (fun _ => 0))), (b7 17, .inl (cI, 56, .inl (fun _ => 0))), (b7 18, .inl (cI, 30, .inl (fun _ => 0))), (b 1, oX0 bc 0 0 0 0 0 0 0 0 0 0), (bc 10, .inl (cI, 12, .inl (fun _ => 0))), (bc 11, .inl (cI, 6, .inl (fun _ => 0))), (bc 12, .inl (cI, 7, .inl (fun _ => 0))), (bc 13, .inl (cI, 7, .inl (fun _ => 0))), (bc 14, .inl (cI, 7, .inl (fun _ => 0))), (bc 15, .inl (cI, 7, .inl (fun _ => 0))), (bc 16, .inl (cI, 7, .inl (fun _ => 0))), (bc 17, .inl (cI, 56, .inl (fun _ => 0))), (bc 18, .inl (cI, 30, .inl (fun _ => 0)))] := hD
      refine lv_iconst (v := 0) hx hb dX9_image_47 (by decide) ?_
      exact hret _ _ _ _ 0 (va_up (fun _ => none) p0.toNatClampNeg (some q3)) (hP.sub (ws' := [(h0, oX9 b), (b 1, oX0 bc 0 0 0 0 0 0 0 0 0 0), (bc 10, .inl (cI, 12, .inl (fun _ => 0))), (bc 11, .inl (cI, 6, .inl (fun _ => 0))), (bc 12, .inl (cI, 7, .inl (fun _ => 0))), (bc 13, .inl (cI, 7, .inl (fun _ => 0))), (bc 14, .inl (cI, 7, .inl (fun _ => 0))), (bc 15, .inl (cI, 7, .inl (fun _ => 0))), (bc 16, .inl (cI, 7, .inl (fun _ => 0))), (bc 17, .inl (cI, 56, .inl (fun _ => 0))), (bc 18, .inl (cI, 30, .inl (fun _ => 0))), (b 2, .inl (cQ, 3, .inr (.inr (.inr (.inr (va_up (fun _ => none) p0.toNatClampNeg (some q3)))))))]) [0, 12, 13, 14, 15, 16, 17, 18, 19, 20, 21, 1] rfl) (hD.sub (ws' := [(h0, oX9 b), (b 1, oX0 bc 0 0 0 0 0 0 0 0 0 0), (bc 10, .inl (cI, 12, .inl (fun _ => 0))), (bc 11, .inl (cI, 6, .inl (fun _ => 0))), (bc 12, .inl (cI, 7, .inl (fun _ => 0))), (bc 13, .inl (cI, 7, .inl (fun _ => 0))), (bc 14, .inl (cI, 7, .inl (fun _ => 0))), (bc 15, .inl (cI, 7, .inl (fun _ => 0))), (bc 16, .inl (cI, 7, .inl (fun _ => 0))), (bc 17, .inl (cI, 56, .inl (fun _ => 0))), (bc 18, .inl (cI, 30, .inl (fun _ => 0))), (b 2, .inl (cQ, 3, .inr (.inr (.inr (.inr (va_up (fun _ => none) p0.toNatClampNeg (some q3)))))))]) [0, 12, 13, 14, 15, 16, 17, 18, 19, 20, 21, 1] rfl rfl) hS dX9_image_48 (by (repeat' split) <;> first | exact rfl | (exfalso; omega))
    · have c2 := i_nlt rfl ki_3 c2
      refine lv_bipush (v := (-2)) hx hb dX9_image_9 (by decide) ?_
      refine W.widen (k := 10) (n := 158) (by decide) (by decide) ?_
      exact hret _ _ _ _ (-2) (fun _ => none) hP hD hS dX9_image_11 (by (repeat' split) <;> first | exact rfl | (exfalso; omega))
set_option maxHeartbeats 4000000 in
set_option maxRecDepth 100000 in
theorem f_X9_back (l : Launch) (G : va_G) (cI cJ cZ cB cQ : ClassId) (sz : Nat) (h0 : Nat) (b : Nat → Nat) (p0 : Int32) : CI l yX9_back (wl_ yX9_back cX9_back 2 (some .int)) ({ frames := 0, cells := 0, slots := 0, locals := 0 } : Room) G (TY cI cJ cZ cB cQ) [.ref h0, .int p0] [(h0, oX9 b), (b 2, .inl (cQ, 3, .inr (.inr (.inr (.inr (fun _ => none))))))] sz (fun (r : Int32) (u : Unit) => (r = if 0 ≤ p0.toInt ∧ p0.toInt ≤ 2 then -6 else -2)) (fun _ : Unit => [(h0, oX9 b), (b 2, .inl (cQ, 3, .inr (.inr (.inr (.inr (fun _ => none))))))]) 0 0 := by
  refine CI.go (cc := cX9_back) (maxL := 2) (ret := (some .int)) (by decide) rfl (Nat.le_of_ble_eq_true rfl) ?_
  intro p e s m below meth c A ls Q hBd hret
  obtain ⟨hx, hb, hr, hml, hts, hown, hlk, hnm, hP, hK, hD, hA, hZ, hl⟩ := hBd
  have hown : s.vm.findClass RX9 = some m.cls := hown
  have hl : lv_has ls 2 [(0, .ref h0), (1, .int p0)] := hl
  have hS : va_S A s.heap s.heap [] := va_S.rf
  refine lv_iload_n hx hb dX9_back_0 rfl (lv_at hl 1 rfl) ?_
  refine lv_if_lt (tgt := 9) hx hb dX9_back_1 (by decide) (fun c1 => ?_) (fun c1 => ?_)
  · have c1 := i_lt rfl ki_0 c1
    refine lv_bipush (v := (-2)) hx hb dX9_back_9 (by decide) ?_
    exact hret _ _ _ _ (-2) () hP hD hS dX9_back_11 (by (repeat' split) <;> first | exact rfl | (exfalso; omega))
  · have c1 := i_nlt rfl ki_0 c1
    refine lv_iload_n hx hb dX9_back_4 rfl (lv_at hl 1 rfl) ?_
    refine lv_iconst (v := 3) hx hb dX9_back_5 (by decide) ?_
    refine lv_icmp_lt (tgt := 12) hx hb dX9_back_6 (by decide) (fun c2 => ?_) (fun c2 => ?_)
    · have c2 := i_lt rfl ki_3 c2
      refine lv_aload_n hx hb dX9_back_12 rfl (lv_at hl 0 rfl) ?_
      refine va_get (D := G) (ci := 9) (v := .ref (b 2)) (C := RX9) (T := TX9) (N := 11) hx hb hts iG_X9 hown hK hP 0 rfl rfl 2 (by decide) (hts _ w_353) (fun _ h9 => h9) rfl dX9_back_13 ?_
      refine lv_iload_n hx hb dX9_back_16 rfl (lv_at hl 1 rfl) ?_
      refine va_aldq hx hb hK hP 1 4 rfl rfl (ix_in rfl (by omega) (by omega)) dX9_back_17 ?_
      refine W.eq (g2 := F0 m 18 ls [.null]) rfl ?_
      refine lv_ifnonnullN hx hb dX9_back_18 ?_
      refine lv_bipush (v := (-6)) hx hb dX9_back_21 (by decide) ?_
      exact hret _ _ _ _ (-6) () hP hD hS dX9_back_23 (by (repeat' split) <;> first | exact rfl | (exfalso; omega))
    · have c2 := i_nlt rfl ki_3 c2
      refine lv_bipush (v := (-2)) hx hb dX9_back_9 (by decide) ?_
      exact hret _ _ _ _ (-2) () hP hD hS dX9_back_11 (by (repeat' split) <;> first | exact rfl | (exfalso; omega))
