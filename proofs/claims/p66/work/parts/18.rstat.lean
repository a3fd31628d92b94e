theorem wp_101 : Cond.selects "WidowRoadsModel" yX10_isWidow yX10_isWidow ∈ GW := GW_p 101 (by decide +kernel) rfl
theorem wp_102 : Cond.selects "WidowRoadsModel" yX10_widows yX10_widows ∈ GW := GW_p 102 (by decide +kernel) rfl
theorem wp_109 : Cond.selects "WidowRoadsModel" yX10_years yX10_years ∈ GW := GW_p 109 (by decide +kernel) rfl
theorem wp_117 : Cond.selects "WidowRoadsModel" yX10_houses yX10_houses ∈ GW := GW_p 117 (by decide +kernel) rfl
theorem wp_120 : Cond.selects "WidowRoadsModel" yX10_isColony yX10_isColony ∈ GW := GW_p 120 (by decide +kernel) rfl
theorem w_11 : Jvm.Cond.initialized "WidowRoadsModel" ∈ GW := GW_t 11 (by decide +kernel) rfl
theorem w_1193 : Jvm.Cond.fieldLink "WidowRoadsModel" (9 : Nat) "WidowRoadsModel" "world" "[I" ∈ GW := GW_t 1193 (by decide +kernel) rfl
theorem w_1336 : Jvm.Cond.methodLink "WidowRoadsModel" (106 : Nat) ({ cls := "WidowRoadsModel", name := "in", desc := "(JJJ)Z" } : Jvm.MethodName) ∈ GW := GW_t 1336 (by decide +kernel) rfl
theorem w_1337 : Jvm.Cond.static ({ cls := "WidowRoadsModel", name := "in", desc := "(JJJ)Z" } : Jvm.MethodName) ∈ GW := GW_t 1337 (by decide +kernel) rfl
theorem w_1338 : Jvm.Cond.code ({ cls := "WidowRoadsModel", name := "in", desc := "(JJJ)Z" } : Jvm.MethodName) prog_12_method_3_code (6 : Nat) (Option.some Jvm.ClassFile.FieldType.boolean) ∈ GW := GW_t 1338 (by decide +kernel) rfl
theorem w_1460 : Jvm.Cond.methodLink "WidowRoadsModel" (261 : Nat) ({ cls := "WidowRoadsModel", name := "isWidow", desc := "(J)Z" } : Jvm.MethodName) ∈ GW := GW_t 1460 (by decide +kernel) rfl
theorem w_1462 : Jvm.Cond.instanceMethod ({ cls := "WidowRoadsModel", name := "isWidow", desc := "(J)Z" } : Jvm.MethodName) ∈ GW := GW_t 1462 (by decide +kernel) rfl
theorem w_1463 : Jvm.Cond.code ({ cls := "WidowRoadsModel", name := "isWidow", desc := "(J)Z" } : Jvm.MethodName) prog_12_method_15_code (3 : Nat) (Option.some Jvm.ClassFile.FieldType.boolean) ∈ GW := GW_t 1463 (by decide +kernel) rfl
theorem w_1464 : Jvm.Cond.methodLink "WidowRoadsModel" (110 : Nat) ({ cls := "WidowRoadsModel", name := "widows", desc := "()I" } : Jvm.MethodName) ∈ GW := GW_t 1464 (by decide +kernel) rfl
theorem w_1466 : Jvm.Cond.instanceMethod ({ cls := "WidowRoadsModel", name := "widows", desc := "()I" } : Jvm.MethodName) ∈ GW := GW_t 1466 (by decide +kernel) rfl
theorem w_1467 : Jvm.Cond.code ({ cls := "WidowRoadsModel", name := "widows", desc := "()I" } : Jvm.MethodName) prog_12_method_10_code (1 : Nat) (Option.some Jvm.ClassFile.FieldType.int) ∈ GW := GW_t 1467 (by decide +kernel) rfl
theorem w_1501 : Jvm.Cond.methodLink "WidowRoadsModel" (118 : Nat) ({ cls := "WidowRoadsModel", name := "years", desc := "()I" } : Jvm.MethodName) ∈ GW := GW_t 1501 (by decide +kernel) rfl
theorem w_1503 : Jvm.Cond.instanceMethod ({ cls := "WidowRoadsModel", name := "years", desc := "()I" } : Jvm.MethodName) ∈ GW := GW_t 1503 (by decide +kernel) rfl
theorem w_1504 : Jvm.Cond.code ({ cls := "WidowRoadsModel", name := "years", desc := "()I" } : Jvm.MethodName) prog_12_method_9_code (1 : Nat) (Option.some Jvm.ClassFile.FieldType.int) ∈ GW := GW_t 1504 (by decide +kernel) rfl
theorem w_1542 : Jvm.Cond.methodLink "WidowRoadsModel" (307 : Nat) ({ cls := "WidowRoadsModel", name := "houses", desc := "()I" } : Jvm.MethodName) ∈ GW := GW_t 1542 (by decide +kernel) rfl
theorem w_1544 : Jvm.Cond.instanceMethod ({ cls := "WidowRoadsModel", name := "houses", desc := "()I" } : Jvm.MethodName) ∈ GW := GW_t 1544 (by decide +kernel) rfl
theorem w_1545 : Jvm.Cond.code ({ cls := "WidowRoadsModel", name := "houses", desc := "()I" } : Jvm.MethodName) prog_12_method_11_code (1 : Nat) (Option.some Jvm.ClassFile.FieldType.int) ∈ GW := GW_t 1545 (by decide +kernel) rfl
theorem w_1554 : Jvm.Cond.methodLink "WidowRoadsModel" (114 : Nat) ({ cls := "WidowRoadsModel", name := "isColony", desc := "()Z" } : Jvm.MethodName) ∈ GW := GW_t 1554 (by decide +kernel) rfl
theorem w_1556 : Jvm.Cond.instanceMethod ({ cls := "WidowRoadsModel", name := "isColony", desc := "()Z" } : Jvm.MethodName) ∈ GW := GW_t 1556 (by decide +kernel) rfl
theorem w_1557 : Jvm.Cond.code ({ cls := "WidowRoadsModel", name := "isColony", desc := "()Z" } : Jvm.MethodName) prog_12_method_8_code (1 : Nat) (Option.some Jvm.ClassFile.FieldType.boolean) ∈ GW := GW_t 1557 (by decide +kernel) rfl
theorem w_1558 : Jvm.Cond.constantLong "WidowRoadsModel" (121 : Nat) (10 : Int64) ∈ GW := GW_t 1558 (by decide +kernel) rfl
theorem w_1819 : Jvm.Cond.constantLong "WidowRoadsModel" (449 : Nat) (3 : Int64) ∈ GW := GW_t 1819 (by decide +kernel) rfl
theorem w_1891 : Jvm.Cond.methodLink "WidowRoadsModel" (467 : Nat) ({ cls := "WidowRoadsModel", name := "divisor", desc := "(JJ)J" } : Jvm.MethodName) ∈ GW := GW_t 1891 (by decide +kernel) rfl
theorem w_1892 : Jvm.Cond.static ({ cls := "WidowRoadsModel", name := "divisor", desc := "(JJ)J" } : Jvm.MethodName) ∈ GW := GW_t 1892 (by decide +kernel) rfl
theorem w_1893 : Jvm.Cond.code ({ cls := "WidowRoadsModel", name := "divisor", desc := "(JJ)J" } : Jvm.MethodName) prog_12_method_134_code (10 : Nat) (Option.some Jvm.ClassFile.FieldType.long) ∈ GW := GW_t 1893 (by decide +kernel) rfl
theorem w_1894 : Jvm.Cond.methodLink "WidowRoadsModel" (463 : Nat) ({ cls := "java/lang/Math", name := "abs", desc := "(J)J" } : Jvm.MethodName) ∈ GW := GW_t 1894 (by decide +kernel) rfl
theorem w_1951 : Jvm.Cond.constantLong "WidowRoadsModel" (512 : Nat) (2000000000 : Int64) ∈ GW := GW_t 1951 (by decide +kernel) rfl
theorem iG_X10 : ∀ w ∈ wsX100, w ∈ GW := GW_in [1238, 1240, 1242, 1244, 1246, 1248, 1250, 1252, 1254, 1256, 1258, 1260, 1262, 1264, 1266, 1268, 1270, 1272, 1274, 1276, 1278, 1280, 1282, 1284, 1286, 1288, 1290, 1292, 1294, 1296, 1298, 1300, 1302, 1304, 1306, 1308, 1310, 1312, 1314, 1316, 1318, 1320, 1322, 1324, 1326, 1328] (by decide +kernel) (by decide +kernel)
theorem hd_X10_divisor : yX10_divisor.cls ≠ "java/lang/invoke/MethodHandle" ∧ yX10_divisor.cls ≠ "java/lang/invoke/VarHandle" ∧ (parseMethodDescriptor yX10_divisor.desc).map (fun d => d.parameters.length) = some 2 := by decide +kernel
theorem hd_X10_houses : yX10_houses.cls ≠ "java/lang/invoke/MethodHandle" ∧ yX10_houses.cls ≠ "java/lang/invoke/VarHandle" ∧ (parseMethodDescriptor yX10_houses.desc).map (fun d => d.parameters.length) = some 0 := by decide +kernel
theorem hd_X10_in : yX10_in.cls ≠ "java/lang/invoke/MethodHandle" ∧ yX10_in.cls ≠ "java/lang/invoke/VarHandle" ∧ (parseMethodDescriptor yX10_in.desc).map (fun d => d.parameters.length) = some 3 := by decide +kernel
theorem hd_X10_isColony : yX10_isColony.cls ≠ "java/lang/invoke/MethodHandle" ∧ yX10_isColony.cls ≠ "java/lang/invoke/VarHandle" ∧ (parseMethodDescriptor yX10_isColony.desc).map (fun d => d.parameters.length) = some 0 := by decide +kernel
theorem hd_X10_isWidow : yX10_isWidow.cls ≠ "java/lang/invoke/MethodHandle" ∧ yX10_isWidow.cls ≠ "java/lang/invoke/VarHandle" ∧ (parseMethodDescriptor yX10_isWidow.desc).map (fun d => d.parameters.length) = some 1 := by decide +kernel
theorem hd_X10_widows : yX10_widows.cls ≠ "java/lang/invoke/MethodHandle" ∧ yX10_widows.cls ≠ "java/lang/invoke/VarHandle" ∧ (parseMethodDescriptor yX10_widows.desc).map (fun d => d.parameters.length) = some 0 := by decide +kernel
theorem hd_X10_years : yX10_years.cls ≠ "java/lang/invoke/MethodHandle" ∧ yX10_years.cls ≠ "java/lang/invoke/VarHandle" ∧ (parseMethodDescriptor yX10_years.desc).map (fun d => d.parameters.length) = some 0 := by decide +kernel
theorem ki_5 : (5 : Int32).toInt = 5 := by decide
theorem ki_9 : (9 : Int32).toInt = 9 := by decide
theorem ki_13 : (13 : Int32).toInt = 13 := by decide
theorem ki_16 : (16 : Int32).toInt = 16 := by decide
theorem ki_28 : (28 : Int32).toInt = 28 := by decide
theorem ki_120 : (120 : Int32).toInt = 120 := by decide
theorem ki_720 : (720 : Int32).toInt = 720 := by decide
theorem ki_5040 : (5040 : Int32).toInt = 5040 := by decide
theorem kl_3 : (3 : Int64).toInt = 3 := by decide
theorem kl_2000000000 : (2000000000 : Int64).toInt = 2000000000 := by decide
theorem dX10_acrossOf_0 : decode cX10_acrossOf 0 = .ok (.iload_n 0, 1) := by decide +kernel
theorem dX10_acrossOf_1 : decode cX10_acrossOf 1 = .ok (.iconst 1, 1) := by decide +kernel
theorem dX10_acrossOf_2 : decode cX10_acrossOf 2 = .ok (.if_icmp .ne 7, 3) := by decide +kernel
theorem dX10_acrossOf_5 : decode cX10_acrossOf 5 = .ok (.iconst 1, 1) := by decide +kernel
theorem dX10_acrossOf_6 : decode cX10_acrossOf 6 = .ok (.goto 13, 3) := by decide +kernel
theorem dX10_acrossOf_9 : decode cX10_acrossOf 9 = .ok (.iload_n 0, 1) := by decide +kernel
theorem dX10_acrossOf_10 : decode cX10_acrossOf 10 = .ok (.iconst 3, 1) := by decide +kernel
theorem dX10_acrossOf_11 : decode cX10_acrossOf 11 = .ok (.if_icmp .ne 7, 3) := by decide +kernel
theorem dX10_acrossOf_14 : decode cX10_acrossOf 14 = .ok (.iconst (-1), 1) := by decide +kernel
theorem dX10_acrossOf_15 : decode cX10_acrossOf 15 = .ok (.goto 4, 3) := by decide +kernel
theorem dX10_acrossOf_18 : decode cX10_acrossOf 18 = .ok (.iconst 0, 1) := by decide +kernel
theorem dX10_acrossOf_19 : decode cX10_acrossOf 19 = .ok (.ireturn, 1) := by decide +kernel
theorem dX10_allWidows_0 : decode cX10_allWidows 0 = .ok (.iconst 1, 1) := by decide +kernel
theorem dX10_allWidows_1 : decode cX10_allWidows 1 = .ok (.aload_n 0, 1) := by decide +kernel
theorem dX10_allWidows_2 : decode cX10_allWidows 2 = .ok (.invokevirtual 110, 3) := by decide +kernel
theorem dX10_allWidows_5 : decode cX10_allWidows 5 = .ok (.ishl, 1) := by decide +kernel
theorem dX10_allWidows_6 : decode cX10_allWidows 6 = .ok (.iconst 1, 1) := by decide +kernel
theorem dX10_allWidows_7 : decode cX10_allWidows 7 = .ok (.isub, 1) := by decide +kernel
theorem dX10_allWidows_8 : decode cX10_allWidows 8 = .ok (.ireturn, 1) := by decide +kernel
theorem dX10_areTwo_0 : decode cX10_areTwo 0 = .ok (.aload_n 0, 1) := by decide +kernel
theorem dX10_areTwo_1 : decode cX10_areTwo 1 = .ok (.iload_n 1, 1) := by decide +kernel
theorem dX10_areTwo_2 : decode cX10_areTwo 2 = .ok (.i2l, 1) := by decide +kernel
theorem dX10_areTwo_3 : decode cX10_areTwo 3 = .ok (.invokevirtual 261, 3) := by decide +kernel
theorem dX10_areTwo_6 : decode cX10_areTwo 6 = .ok (.ifCond .eq 21, 3) := by decide +kernel
theorem dX10_areTwo_9 : decode cX10_areTwo 9 = .ok (.aload_n 0, 1) := by decide +kernel
theorem dX10_areTwo_10 : decode cX10_areTwo 10 = .ok (.iload_n 2, 1) := by decide +kernel
theorem dX10_areTwo_11 : decode cX10_areTwo 11 = .ok (.i2l, 1) := by decide +kernel
theorem dX10_areTwo_12 : decode cX10_areTwo 12 = .ok (.invokevirtual 261, 3) := by decide +kernel
theorem dX10_areTwo_15 : decode cX10_areTwo 15 = .ok (.ifCond .eq 12, 3) := by decide +kernel
theorem dX10_areTwo_18 : decode cX10_areTwo 18 = .ok (.iload_n 1, 1) := by decide +kernel
theorem dX10_areTwo_19 : decode cX10_areTwo 19 = .ok (.iload_n 2, 1) := by decide +kernel
theorem dX10_areTwo_20 : decode cX10_areTwo 20 = .ok (.if_icmp .eq 7, 3) := by decide +kernel
theorem dX10_areTwo_23 : decode cX10_areTwo 23 = .ok (.iconst 1, 1) := by decide +kernel
theorem dX10_areTwo_24 : decode cX10_areTwo 24 = .ok (.goto 4, 3) := by decide +kernel
theorem dX10_areTwo_27 : decode cX10_areTwo 27 = .ok (.iconst 0, 1) := by decide +kernel
theorem dX10_areTwo_28 : decode cX10_areTwo 28 = .ok (.ireturn, 1) := by decide +kernel
theorem dX10_bit_0 : decode cX10_bit 0 = .ok (.iload_n 0, 1) := by decide +kernel
theorem dX10_bit_1 : decode cX10_bit 1 = .ok (.iload_n 1, 1) := by decide +kernel
theorem dX10_bit_2 : decode cX10_bit 2 = .ok (.ishr, 1) := by decide +kernel
theorem dX10_bit_3 : decode cX10_bit 3 = .ok (.iconst 1, 1) := by decide +kernel
theorem dX10_bit_4 : decode cX10_bit 4 = .ok (.iand, 1) := by decide +kernel
theorem dX10_bit_5 : decode cX10_bit 5 = .ok (.ireturn, 1) := by decide +kernel
theorem dX10_bits_0 : decode cX10_bits 0 = .ok (.iconst 0, 1) := by decide +kernel
theorem dX10_bits_1 : decode cX10_bits 1 = .ok (.istore_n 1, 1) := by decide +kernel
theorem dX10_bits_2 : decode cX10_bits 2 = .ok (.iconst 0, 1) := by decide +kernel
theorem dX10_bits_3 : decode cX10_bits 3 = .ok (.istore_n 2, 1) := by decide +kernel
theorem dX10_bits_4 : decode cX10_bits 4 = .ok (.iload_n 2, 1) := by decide +kernel
theorem dX10_bits_5 : decode cX10_bits 5 = .ok (.bipush 16, 2) := by decide +kernel
theorem dX10_bits_7 : decode cX10_bits 7 = .ok (.if_icmp .ge 17, 3) := by decide +kernel
theorem dX10_bits_10 : decode cX10_bits 10 = .ok (.iload_n 1, 1) := by decide +kernel
theorem dX10_bits_11 : decode cX10_bits 11 = .ok (.iload_n 0, 1) := by decide +kernel
theorem dX10_bits_12 : decode cX10_bits 12 = .ok (.iload_n 2, 1) := by decide +kernel
theorem dX10_bits_13 : decode cX10_bits 13 = .ok (.ishr, 1) := by decide +kernel
theorem dX10_bits_14 : decode cX10_bits 14 = .ok (.iconst 1, 1) := by decide +kernel
theorem dX10_bits_15 : decode cX10_bits 15 = .ok (.iand, 1) := by decide +kernel
theorem dX10_bits_16 : decode cX10_bits 16 = .ok (.iadd, 1) := by decide +kernel
theorem dX10_bits_17 : decode cX10_bits 17 = .ok (.istore_n 1, 1) := by decide +kernel
theorem dX10_bits_18 : decode cX10_bits 18 = .ok (.iinc 2 1, 3) := by decide +kernel
theorem dX10_bits_21 : decode cX10_bits 21 = .ok (.goto (-17), 3) := by decide +kernel
theorem dX10_bits_24 : decode cX10_bits 24 = .ok (.iload_n 1, 1) := by decide +kernel
theorem dX10_bits_25 : decode cX10_bits 25 = .ok (.ireturn, 1) := by decide +kernel
theorem dX10_clipped_0 : decode cX10_clipped 0 = .ok (.bipush 64, 2) := by decide +kernel
theorem dX10_clipped_2 : decode cX10_clipped 2 = .ok (.bipush 8, 2) := by decide +kernel
theorem dX10_clipped_4 : decode cX10_clipped 4 = .ok (.iload_n 2, 1) := by decide +kernel
theorem dX10_clipped_5 : decode cX10_clipped 5 = .ok (.ishl, 1) := by decide +kernel
theorem dX10_clipped_6 : decode cX10_clipped 6 = .ok (.isub, 1) := by decide +kernel
theorem dX10_clipped_7 : decode cX10_clipped 7 = .ok (.istore_n 3, 1) := by decide +kernel
theorem dX10_clipped_8 : decode cX10_clipped 8 = .ok (.lload_n 0, 1) := by decide +kernel
theorem dX10_clipped_9 : decode cX10_clipped 9 = .ok (.iload_n 3, 1) := by decide +kernel
theorem dX10_clipped_10 : decode cX10_clipped 10 = .ok (.lshl, 1) := by decide +kernel
theorem dX10_clipped_11 : decode cX10_clipped 11 = .ok (.iload_n 3, 1) := by decide +kernel
theorem dX10_clipped_12 : decode cX10_clipped 12 = .ok (.lshr, 1) := by decide +kernel
theorem dX10_clipped_13 : decode cX10_clipped 13 = .ok (.lreturn, 1) := by decide +kernel
theorem dX10_divisor_0 : decode cX10_divisor 0 = .ok (.lload_n 0, 1) := by decide +kernel
theorem dX10_divisor_1 : decode cX10_divisor 1 = .ok (.invokestatic 463, 3) := by decide +kernel
theorem dX10_divisor_4 : decode cX10_divisor 4 = .ok (.lstore 4, 2) := by decide +kernel
theorem dX10_divisor_6 : decode cX10_divisor 6 = .ok (.lload_n 2, 1) := by decide +kernel
theorem dX10_divisor_7 : decode cX10_divisor 7 = .ok (.lstore 6, 2) := by decide +kernel
theorem dX10_divisor_9 : decode cX10_divisor 9 = .ok (.lload 6, 2) := by decide +kernel
theorem dX10_divisor_11 : decode cX10_divisor 11 = .ok (.lconst 0, 1) := by decide +kernel
theorem dX10_divisor_12 : decode cX10_divisor 12 = .ok (.lcmp, 1) := by decide +kernel
theorem dX10_divisor_13 : decode cX10_divisor 13 = .ok (.ifCond .eq 21, 3) := by decide +kernel
theorem dX10_divisor_16 : decode cX10_divisor 16 = .ok (.lload 4, 2) := by decide +kernel
theorem dX10_divisor_18 : decode cX10_divisor 18 = .ok (.lload 6, 2) := by decide +kernel
theorem dX10_divisor_20 : decode cX10_divisor 20 = .ok (.lrem, 1) := by decide +kernel
theorem dX10_divisor_21 : decode cX10_divisor 21 = .ok (.lstore 8, 2) := by decide +kernel
theorem dX10_divisor_23 : decode cX10_divisor 23 = .ok (.lload 6, 2) := by decide +kernel
theorem dX10_divisor_25 : decode cX10_divisor 25 = .ok (.lstore 4, 2) := by decide +kernel
theorem dX10_divisor_27 : decode cX10_divisor 27 = .ok (.lload 8, 2) := by decide +kernel
theorem dX10_divisor_29 : decode cX10_divisor 29 = .ok (.lstore 6, 2) := by decide +kernel
theorem dX10_divisor_31 : decode cX10_divisor 31 = .ok (.goto (-22), 3) := by decide +kernel
theorem dX10_divisor_34 : decode cX10_divisor 34 = .ok (.lload 4, 2) := by decide +kernel
theorem dX10_divisor_36 : decode cX10_divisor 36 = .ok (.lreturn, 1) := by decide +kernel
theorem dX10_downOf_0 : decode cX10_downOf 0 = .ok (.iload_n 0, 1) := by decide +kernel
theorem dX10_downOf_1 : decode cX10_downOf 1 = .ok (.iconst 2, 1) := by decide +kernel
theorem dX10_downOf_2 : decode cX10_downOf 2 = .ok (.if_icmp .ne 7, 3) := by decide +kernel
theorem dX10_downOf_5 : decode cX10_downOf 5 = .ok (.iconst 1, 1) := by decide +kernel
theorem dX10_downOf_6 : decode cX10_downOf 6 = .ok (.goto 12, 3) := by decide +kernel
theorem dX10_downOf_9 : decode cX10_downOf 9 = .ok (.iload_n 0, 1) := by decide +kernel
theorem dX10_downOf_10 : decode cX10_downOf 10 = .ok (.ifCond .ne 7, 3) := by decide +kernel
theorem dX10_downOf_13 : decode cX10_downOf 13 = .ok (.iconst (-1), 1) := by decide +kernel
theorem dX10_downOf_14 : decode cX10_downOf 14 = .ok (.goto 4, 3) := by decide +kernel
theorem dX10_downOf_17 : decode cX10_downOf 17 = .ok (.iconst 0, 1) := by decide +kernel
theorem dX10_downOf_18 : decode cX10_downOf 18 = .ok (.ireturn, 1) := by decide +kernel
theorem dX10_factorial_0 : decode cX10_factorial 0 = .ok (.iconst 1, 1) := by decide +kernel
theorem dX10_factorial_1 : decode cX10_factorial 1 = .ok (.istore_n 1, 1) := by decide +kernel
theorem dX10_factorial_2 : decode cX10_factorial 2 = .ok (.iconst 2, 1) := by decide +kernel
theorem dX10_factorial_3 : decode cX10_factorial 3 = .ok (.istore_n 2, 1) := by decide +kernel
theorem dX10_factorial_4 : decode cX10_factorial 4 = .ok (.iload_n 2, 1) := by decide +kernel
theorem dX10_factorial_5 : decode cX10_factorial 5 = .ok (.iload_n 0, 1) := by decide +kernel
theorem dX10_factorial_6 : decode cX10_factorial 6 = .ok (.if_icmp .gt 13, 3) := by decide +kernel
theorem dX10_factorial_9 : decode cX10_factorial 9 = .ok (.iload_n 1, 1) := by decide +kernel
theorem dX10_factorial_10 : decode cX10_factorial 10 = .ok (.iload_n 2, 1) := by decide +kernel
theorem dX10_factorial_11 : decode cX10_factorial 11 = .ok (.imul, 1) := by decide +kernel
theorem dX10_factorial_12 : decode cX10_factorial 12 = .ok (.istore_n 1, 1) := by decide +kernel
theorem dX10_factorial_13 : decode cX10_factorial 13 = .ok (.iinc 2 1, 3) := by decide +kernel
theorem dX10_factorial_16 : decode cX10_factorial 16 = .ok (.goto (-12), 3) := by decide +kernel
theorem dX10_factorial_19 : decode cX10_factorial 19 = .ok (.iload_n 1, 1) := by decide +kernel
theorem dX10_factorial_20 : decode cX10_factorial 20 = .ok (.ireturn, 1) := by decide +kernel
theorem dX10_houses_0 : decode cX10_houses 0 = .ok (.aload_n 0, 1) := by decide +kernel
theorem dX10_houses_1 : decode cX10_houses 1 = .ok (.getfield 9, 3) := by decide +kernel
theorem dX10_houses_4 : decode cX10_houses 4 = .ok (.bipush 6, 2) := by decide +kernel
theorem dX10_houses_6 : decode cX10_houses 6 = .ok (.iaload, 1) := by decide +kernel
theorem dX10_houses_7 : decode cX10_houses 7 = .ok (.ireturn, 1) := by decide +kernel
theorem dX10_in_0 : decode cX10_in 0 = .ok (.lload_n 0, 1) := by decide +kernel
theorem dX10_in_1 : decode cX10_in 1 = .ok (.lload_n 2, 1) := by decide +kernel
theorem dX10_in_2 : decode cX10_in 2 = .ok (.lcmp, 1) := by decide +kernel
theorem dX10_in_3 : decode cX10_in 3 = .ok (.ifCond .lt 14, 3) := by decide +kernel
theorem dX10_in_6 : decode cX10_in 6 = .ok (.lload_n 0, 1) := by decide +kernel
theorem dX10_in_7 : decode cX10_in 7 = .ok (.lload 4, 2) := by decide +kernel
theorem dX10_in_9 : decode cX10_in 9 = .ok (.lcmp, 1) := by decide +kernel
theorem dX10_in_10 : decode cX10_in 10 = .ok (.ifCond .gt 7, 3) := by decide +kernel
theorem dX10_in_13 : decode cX10_in 13 = .ok (.iconst 1, 1) := by decide +kernel
theorem dX10_in_14 : decode cX10_in 14 = .ok (.goto 4, 3) := by decide +kernel
theorem dX10_in_17 : decode cX10_in 17 = .ok (.iconst 0, 1) := by decide +kernel
theorem dX10_in_18 : decode cX10_in 18 = .ok (.ireturn, 1) := by decide +kernel
theorem dX10_isCell_0 : decode cX10_isCell 0 = .ok (.aload_n 0, 1) := by decide +kernel
theorem dX10_isCell_1 : decode cX10_isCell 1 = .ok (.invokevirtual 114, 3) := by decide +kernel
theorem dX10_isCell_4 : decode cX10_isCell 4 = .ok (.ifCond .eq 55, 3) := by decide +kernel
theorem dX10_isCell_7 : decode cX10_isCell 7 = .ok (.lload_n 1, 1) := by decide +kernel
theorem dX10_isCell_8 : decode cX10_isCell 8 = .ok (.lconst 0, 1) := by decide +kernel
theorem dX10_isCell_9 : decode cX10_isCell 9 = .ok (.lcmp, 1) := by decide +kernel
theorem dX10_isCell_10 : decode cX10_isCell 10 = .ok (.ifCond .lt 49, 3) := by decide +kernel
theorem dX10_isCell_13 : decode cX10_isCell 13 = .ok (.lload_n 1, 1) := by decide +kernel
theorem dX10_isCell_14 : decode cX10_isCell 14 = .ok (.ldc2_w 121, 3) := by decide +kernel
theorem dX10_isCell_17 : decode cX10_isCell 17 = .ok (.ldiv, 1) := by decide +kernel
theorem dX10_isCell_18 : decode cX10_isCell 18 = .ok (.lconst 0, 1) := by decide +kernel
theorem dX10_isCell_19 : decode cX10_isCell 19 = .ok (.aload_n 0, 1) := by decide +kernel
theorem dX10_isCell_20 : decode cX10_isCell 20 = .ok (.getfield 9, 3) := by decide +kernel
theorem dX10_isCell_23 : decode cX10_isCell 23 = .ok (.iconst 3, 1) := by decide +kernel
theorem dX10_isCell_24 : decode cX10_isCell 24 = .ok (.iaload, 1) := by decide +kernel
theorem dX10_isCell_25 : decode cX10_isCell 25 = .ok (.iconst 1, 1) := by decide +kernel
theorem dX10_isCell_26 : decode cX10_isCell 26 = .ok (.isub, 1) := by decide +kernel
theorem dX10_isCell_27 : decode cX10_isCell 27 = .ok (.i2l, 1) := by decide +kernel
theorem dX10_isCell_28 : decode cX10_isCell 28 = .ok (.invokestatic 106, 3) := by decide +kernel
theorem dX10_isCell_31 : decode cX10_isCell 31 = .ok (.ifCond .eq 28, 3) := by decide +kernel
theorem dX10_isCell_34 : decode cX10_isCell 34 = .ok (.lload_n 1, 1) := by decide +kernel
theorem dX10_isCell_35 : decode cX10_isCell 35 = .ok (.ldc2_w 121, 3) := by decide +kernel
theorem dX10_isCell_38 : decode cX10_isCell 38 = .ok (.lrem, 1) := by decide +kernel
theorem dX10_isCell_39 : decode cX10_isCell 39 = .ok (.lconst 0, 1) := by decide +kernel
theorem dX10_isCell_40 : decode cX10_isCell 40 = .ok (.aload_n 0, 1) := by decide +kernel
theorem dX10_isCell_41 : decode cX10_isCell 41 = .ok (.getfield 9, 3) := by decide +kernel
theorem dX10_isCell_44 : decode cX10_isCell 44 = .ok (.iconst 4, 1) := by decide +kernel
theorem dX10_isCell_45 : decode cX10_isCell 45 = .ok (.iaload, 1) := by decide +kernel
theorem dX10_isCell_46 : decode cX10_isCell 46 = .ok (.iconst 1, 1) := by decide +kernel
theorem dX10_isCell_47 : decode cX10_isCell 47 = .ok (.isub, 1) := by decide +kernel
theorem dX10_isCell_48 : decode cX10_isCell 48 = .ok (.i2l, 1) := by decide +kernel
theorem dX10_isCell_49 : decode cX10_isCell 49 = .ok (.invokestatic 106, 3) := by decide +kernel
theorem dX10_isCell_52 : decode cX10_isCell 52 = .ok (.ifCond .eq 7, 3) := by decide +kernel
theorem dX10_isCell_55 : decode cX10_isCell 55 = .ok (.iconst 1, 1) := by decide +kernel
theorem dX10_isCell_56 : decode cX10_isCell 56 = .ok (.goto 4, 3) := by decide +kernel
theorem dX10_isCell_59 : decode cX10_isCell 59 = .ok (.iconst 0, 1) := by decide +kernel
theorem dX10_isCell_60 : decode cX10_isCell 60 = .ok (.ireturn, 1) := by decide +kernel
theorem dX10_isColony_0 : decode cX10_isColony 0 = .ok (.aload_n 0, 1) := by decide +kernel
theorem dX10_isColony_1 : decode cX10_isColony 1 = .ok (.getfield 9, 3) := by decide +kernel
theorem dX10_isColony_4 : decode cX10_isColony 4 = .ok (.bipush 9, 2) := by decide +kernel
theorem dX10_isColony_6 : decode cX10_isColony 6 = .ok (.iaload, 1) := by decide +kernel
theorem dX10_isColony_7 : decode cX10_isColony 7 = .ok (.ifCond .le 7, 3) := by decide +kernel
theorem dX10_isColony_10 : decode cX10_isColony 10 = .ok (.iconst 1, 1) := by decide +kernel
theorem dX10_isColony_11 : decode cX10_isColony 11 = .ok (.goto 4, 3) := by decide +kernel
theorem dX10_isColony_14 : decode cX10_isColony 14 = .ok (.iconst 0, 1) := by decide +kernel
theorem dX10_isColony_15 : decode cX10_isColony 15 = .ok (.ireturn, 1) := by decide +kernel
theorem dX10_isHouseTold_0 : decode cX10_isHouseTold 0 = .ok (.iload_n 1, 1) := by decide +kernel
theorem dX10_isHouseTold_1 : decode cX10_isHouseTold 1 = .ok (.i2l, 1) := by decide +kernel
theorem dX10_isHouseTold_2 : decode cX10_isHouseTold 2 = .ok (.lconst 0, 1) := by decide +kernel
theorem dX10_isHouseTold_3 : decode cX10_isHouseTold 3 = .ok (.aload_n 0, 1) := by decide +kernel
theorem dX10_isHouseTold_4 : decode cX10_isHouseTold 4 = .ok (.invokevirtual 307, 3) := by decide +kernel
theorem dX10_isHouseTold_7 : decode cX10_isHouseTold 7 = .ok (.iconst 1, 1) := by decide +kernel
theorem dX10_isHouseTold_8 : decode cX10_isHouseTold 8 = .ok (.isub, 1) := by decide +kernel
theorem dX10_isHouseTold_9 : decode cX10_isHouseTold 9 = .ok (.i2l, 1) := by decide +kernel
theorem dX10_isHouseTold_10 : decode cX10_isHouseTold 10 = .ok (.invokestatic 106, 3) := by decide +kernel
theorem dX10_isHouseTold_13 : decode cX10_isHouseTold 13 = .ok (.ireturn, 1) := by decide +kernel
theorem dX10_isSeed_0 : decode cX10_isSeed 0 = .ok (.iload_n 0, 1) := by decide +kernel
theorem dX10_isSeed_1 : decode cX10_isSeed 1 = .ok (.i2l, 1) := by decide +kernel
theorem dX10_isSeed_2 : decode cX10_isSeed 2 = .ok (.lconst 0, 1) := by decide +kernel
theorem dX10_isSeed_3 : decode cX10_isSeed 3 = .ok (.ldc2_w 512, 3) := by decide +kernel
theorem dX10_isSeed_6 : decode cX10_isSeed 6 = .ok (.invokestatic 106, 3) := by decide +kernel
theorem dX10_isSeed_9 : decode cX10_isSeed 9 = .ok (.ireturn, 1) := by decide +kernel
theorem dX10_isSlot_0 : decode cX10_isSlot 0 = .ok (.iload_n 0, 1) := by decide +kernel
theorem dX10_isSlot_1 : decode cX10_isSlot 1 = .ok (.i2l, 1) := by decide +kernel
theorem dX10_isSlot_2 : decode cX10_isSlot 2 = .ok (.lconst 0, 1) := by decide +kernel
theorem dX10_isSlot_3 : decode cX10_isSlot 3 = .ok (.ldc2_w 449, 3) := by decide +kernel
theorem dX10_isSlot_6 : decode cX10_isSlot 6 = .ok (.invokestatic 106, 3) := by decide +kernel
theorem dX10_isSlot_9 : decode cX10_isSlot 9 = .ok (.ireturn, 1) := by decide +kernel
theorem dX10_isWidow_0 : decode cX10_isWidow 0 = .ok (.lload_n 1, 1) := by decide +kernel
theorem dX10_isWidow_1 : decode cX10_isWidow 1 = .ok (.lconst 0, 1) := by decide +kernel
theorem dX10_isWidow_2 : decode cX10_isWidow 2 = .ok (.aload_n 0, 1) := by decide +kernel
theorem dX10_isWidow_3 : decode cX10_isWidow 3 = .ok (.invokevirtual 110, 3) := by decide +kernel
theorem dX10_isWidow_6 : decode cX10_isWidow 6 = .ok (.iconst 1, 1) := by decide +kernel
theorem dX10_isWidow_7 : decode cX10_isWidow 7 = .ok (.isub, 1) := by decide +kernel
theorem dX10_isWidow_8 : decode cX10_isWidow 8 = .ok (.i2l, 1) := by decide +kernel
theorem dX10_isWidow_9 : decode cX10_isWidow 9 = .ok (.invokestatic 106, 3) := by decide +kernel
theorem dX10_isWidow_12 : decode cX10_isWidow 12 = .ok (.ireturn, 1) := by decide +kernel
theorem dX10_isYear_0 : decode cX10_isYear 0 = .ok (.aload_n 0, 1) := by decide +kernel
theorem dX10_isYear_1 : decode cX10_isYear 1 = .ok (.invokevirtual 114, 3) := by decide +kernel
theorem dX10_isYear_4 : decode cX10_isYear 4 = .ok (.ifCond .eq 20, 3) := by decide +kernel
theorem dX10_isYear_7 : decode cX10_isYear 7 = .ok (.lload_n 1, 1) := by decide +kernel
theorem dX10_isYear_8 : decode cX10_isYear 8 = .ok (.lconst 0, 1) := by decide +kernel
theorem dX10_isYear_9 : decode cX10_isYear 9 = .ok (.aload_n 0, 1) := by decide +kernel
theorem dX10_isYear_10 : decode cX10_isYear 10 = .ok (.invokevirtual 118, 3) := by decide +kernel
theorem dX10_isYear_13 : decode cX10_isYear 13 = .ok (.i2l, 1) := by decide +kernel
theorem dX10_isYear_14 : decode cX10_isYear 14 = .ok (.invokestatic 106, 3) := by decide +kernel
theorem dX10_isYear_17 : decode cX10_isYear 17 = .ok (.ifCond .eq 7, 3) := by decide +kernel
theorem dX10_isYear_20 : decode cX10_isYear 20 = .ok (.iconst 1, 1) := by decide +kernel
theorem dX10_isYear_21 : decode cX10_isYear 21 = .ok (.goto 4, 3) := by decide +kernel
theorem dX10_isYear_24 : decode cX10_isYear 24 = .ok (.iconst 0, 1) := by decide +kernel
theorem dX10_isYear_25 : decode cX10_isYear 25 = .ok (.ireturn, 1) := by decide +kernel
theorem dX10_part_0 : decode cX10_part 0 = .ok (.iload 4, 2) := by decide +kernel
theorem dX10_part_2 : decode cX10_part 2 = .ok (.ifCond .ne 7, 3) := by decide +kernel
theorem dX10_part_5 : decode cX10_part 5 = .ok (.lload_n 0, 1) := by decide +kernel
theorem dX10_part_6 : decode cX10_part 6 = .ok (.goto 4, 3) := by decide +kernel
theorem dX10_part_9 : decode cX10_part 9 = .ok (.lload_n 2, 1) := by decide +kernel
theorem dX10_part_10 : decode cX10_part 10 = .ok (.lload_n 0, 1) := by decide +kernel
theorem dX10_part_11 : decode cX10_part 11 = .ok (.lload_n 2, 1) := by decide +kernel
theorem dX10_part_12 : decode cX10_part 12 = .ok (.invokestatic 467, 3) := by decide +kernel
theorem dX10_part_15 : decode cX10_part 15 = .ok (.ldiv, 1) := by decide +kernel
theorem dX10_part_16 : decode cX10_part 16 = .ok (.lreturn, 1) := by decide +kernel
theorem dX10_widowOf_0 : decode cX10_widowOf 0 = .ok (.aload_n 0, 1) := by decide +kernel
theorem dX10_widowOf_1 : decode cX10_widowOf 1 = .ok (.getfield 9, 3) := by decide +kernel
theorem dX10_widowOf_4 : decode cX10_widowOf 4 = .ok (.bipush 28, 2) := by decide +kernel
theorem dX10_widowOf_6 : decode cX10_widowOf 6 = .ok (.bipush 13, 2) := by decide +kernel
theorem dX10_widowOf_8 : decode cX10_widowOf 8 = .ok (.iload_n 1, 1) := by decide +kernel
theorem dX10_widowOf_9 : decode cX10_widowOf 9 = .ok (.imul, 1) := by decide +kernel
theorem dX10_widowOf_10 : decode cX10_widowOf 10 = .ok (.iadd, 1) := by decide +kernel
theorem dX10_widowOf_11 : decode cX10_widowOf 11 = .ok (.iload_n 2, 1) := by decide +kernel
theorem dX10_widowOf_12 : decode cX10_widowOf 12 = .ok (.iadd, 1) := by decide +kernel
theorem dX10_widowOf_13 : decode cX10_widowOf 13 = .ok (.iaload, 1) := by decide +kernel
theorem dX10_widowOf_14 : decode cX10_widowOf 14 = .ok (.ireturn, 1) := by decide +kernel
theorem dX10_widows_0 : decode cX10_widows 0 = .ok (.aload_n 0, 1) := by decide +kernel
theorem dX10_widows_1 : decode cX10_widows 1 = .ok (.getfield 9, 3) := by decide +kernel
theorem dX10_widows_4 : decode cX10_widows 4 = .ok (.bipush 7, 2) := by decide +kernel
theorem dX10_widows_6 : decode cX10_widows 6 = .ok (.iaload, 1) := by decide +kernel
theorem dX10_widows_7 : decode cX10_widows 7 = .ok (.ireturn, 1) := by decide +kernel
theorem dX10_years_0 : decode cX10_years 0 = .ok (.aload_n 0, 1) := by decide +kernel
theorem dX10_years_1 : decode cX10_years 1 = .ok (.getfield 9, 3) := by decide +kernel
theorem dX10_years_4 : decode cX10_years 4 = .ok (.iconst 0, 1) := by decide +kernel
theorem dX10_years_5 : decode cX10_years 5 = .ok (.iaload, 1) := by decide +kernel
theorem dX10_years_6 : decode cX10_years 6 = .ok (.ireturn, 1) := by decide +kernel
set_option maxHeartbeats 4000000 in
set_option maxRecDepth 100000 in
theorem f_X10_in (l : Launch) (G : va_G) (cI cJ cZ cB cQ : ClassId) (sz : Nat) (p0 : Int64) (a0 : Int) (p1 : Int64) (a1 : Int) (p2 : Int64) (a2 : Int) (hp0 : p0.toInt = a0) (hp1 : p1.toInt = a1) (hp2 : p2.toInt = a2) : CI l yX10_in (wl_ yX10_in cX10_in 6 (some .boolean)) ({ frames := 0, cells := 0, slots := 0, locals := 0 } : Room) G (TY cI cJ cZ cB cQ) [.long p0, .long p1, .long p2] [] sz (fun (r : Int32) (u : Unit) => ((r = 1 ∧ a1 ≤ a0 ∧ a0 ≤ a2) ∨ (r = 0 ∧ (a0 < a1 ∨ a2 < a0)))) (fun _ : Unit => []) 0 0 := by
  refine CI.goz (cc := cX10_in) (maxL := 6) (ret := (some .boolean)) (by decide) rfl (Nat.le_of_ble_eq_true rfl) ?_
  intro p e s m below meth c A ls Q hBd hret
  obtain ⟨hx, hb, hr, hml, hts, hown, hlk, hnm, hP, hK, hD, hA, hZ, hl⟩ := hBd
  have hown : s.vm.findClass RX10 = some m.cls := hown
  have hl : lv_has ls 6 [(0, .long p0), (2, .long p1), (4, .long p2)] := hl
  have hS : va_S A s.heap s.heap [] := va_S.rf
  refine lv_lload_n hx hb dX10_in_0 rfl (lv_at hl 0 rfl) ?_
  refine lv_lload_n hx hb dX10_in_1 rfl (lv_at hl 1 rfl) ?_
  refine W.lcmp hx hb dX10_in_2 ?_
  refine lv_if_lt (tgt := 17) hx hb dX10_in_3 (by decide) (fun c1 => ?_) (fun c1 => ?_)
  · have c1 := c_lt hp0 hp1 c1
    refine lv_iconst (v := 0) hx hb dX10_in_17 (by decide) ?_
    exact hret _ _ _ _ 0 () hP hD hS dX10_in_18 rfl (show (((0 : Int32) = 1 ∧ a1 ≤ a0 ∧ a0 ≤ a2) ∨ ((0 : Int32) = 0 ∧ (a0 < a1 ∨ a2 < a0))) from (Or.inr ⟨rfl, by omega⟩))
  · have c1 := c_nlt hp0 hp1 c1
    refine lv_lload_n hx hb dX10_in_6 rfl (lv_at hl 0 rfl) ?_
    refine lv_lload hx hb dX10_in_7 (lv_at hl 2 rfl) ?_
    refine W.lcmp hx hb dX10_in_9 ?_
    refine lv_if_gt (tgt := 17) hx hb dX10_in_10 (by decide) (fun c2 => ?_) (fun c2 => ?_)
    · have c2 := c_gt hp0 hp2 c2
      refine lv_iconst (v := 0) hx hb dX10_in_17 (by decide) ?_
      exact hret _ _ _ _ 0 () hP hD hS dX10_in_18 rfl (show (((0 : Int32) = 1 ∧ a1 ≤ a0 ∧ a0 ≤ a2) ∨ ((0 : Int32) = 0 ∧ (a0 < a1 ∨ a2 < a0))) from (Or.inr ⟨rfl, by omega⟩))
    · have c2 := c_ngt hp0 hp2 c2
      refine lv_iconst (v := 1) hx hb dX10_in_13 (by decide) ?_
      refine lv_goto (tgt := 18) hx hb dX10_in_14 (by decide) ?_
      exact hret _ _ _ _ 1 () hP hD hS dX10_in_18 rfl (show (((1 : Int32) = 1 ∧ a1 ≤ a0 ∧ a0 ≤ a2) ∨ ((1 : Int32) = 0 ∧ (a0 < a1 ∨ a2 < a0))) from (Or.inl ⟨rfl, by omega, by omega⟩))
set_option maxHeartbeats 4000000 in
set_option maxRecDepth 100000 in
theorem f_X10_bits (l : Launch) (G : va_G) (cI cJ cZ cB cQ : ClassId) (sz : Nat) (p0 : Int32) (a0 : Int) (hp0 : p0.toInt = a0) : CI l yX10_bits (wl_ yX10_bits cX10_bits 3 (some .int)) ({ frames := 0, cells := 0, slots := 0, locals := 0 } : Room) G (TY cI cJ cZ cB cQ) [.int p0] [] sz (fun (r : Int32) (u : Unit) => 0 ≤ r.toInt ∧ r.toInt ≤ 16) (fun _ : Unit => []) 0 0 := by
  refine CI.go (cc := cX10_bits) (maxL := 3) (ret := (some .int)) (by decide) rfl (Nat.le_of_ble_eq_true rfl) ?_
  intro p e s m below meth c A ls Q hBd hret
  obtain ⟨hx, hb, hr, hml, hts, hown, hlk, hnm, hP, hK, hD, hA, hZ, hl⟩ := hBd
  have hown : s.vm.findClass RX10 = some m.cls := hown
  have hl : lv_has ls 3 [(0, .int p0)] := hl
  have hS : va_S A s.heap s.heap [] := va_S.rf
  refine lv_iconst (v := 0) hx hb dX10_bits_0 (by decide) ?_
  refine lv_istore_n (lv' := [(1, .int 0), (0, .int p0)]) hx hb dX10_bits_1 rfl hl (by decide) rfl (fun ls hl => ?_)
  refine lv_iconst (v := 0) hx hb dX10_bits_2 (by decide) ?_
  refine lv_istore_n (lv' := [(2, .int 0), (1, .int 0), (0, .int p0)]) hx hb dX10_bits_3 rfl hl (by decide) rfl (fun ls hl => ?_)
  have lp1 : ∀ (n2 : Nat) (x3 : Int32) (x4 : Int32), 0 ≤ x3.toInt → x3.toInt ≤ 16 → 0 ≤ x4.toInt → x4.toInt ≤ 16 → x3.toInt ≤ x4.toInt → 16 - x4.toInt < (n2 : Int) → ∀ (H : Heap) (locs : List Loc), va_P G vwCl [] H → va_D A [] → va_S A s.heap H locs → ∀ (ls : Array Slot), lv_has ls 3 [(2, .int x4), (1, .int x3), (0, .int p0)] → W p l e ({ frames := 0, cells := 0, slots := 0, locals := 0 } : Room) s m ([.int p0] : List Value).toArray below meth c H locs 0 0 Q (F0 m 4 ls []) := by
    intro n2
    induction n2 with
    | zero =>
      intro x3 x4 k5 k6 k7 k8 bx8 mm10
      exact absurd mm10 (by have q9 := fb_rng x4; omega)
    | succ n2 ih9 =>
      intro x3 x4 k5 k6 k7 k8 bx8 mm10 H locs hP hD hS ls hl
      refine lv_iload_n hx hb dX10_bits_4 rfl (lv_at hl 0 rfl) ?_
      refine lv_bipush (v := 16) hx hb dX10_bits_5 (by decide) ?_
      refine lv_icmp_ge (tgt := 24) hx hb dX10_bits_7 (by decide) (fun c11 => ?_) (fun c11 => ?_)
      · have c11 := i_le ki_16 rfl c11
        refine lv_iload_n hx hb dX10_bits_24 rfl (lv_at hl 1 rfl) ?_
        exact hret _ _ _ _ x3 () hP hD hS dX10_bits_25 (show 0 ≤ x3.toInt ∧ x3.toInt ≤ 16 from ⟨k5, k6⟩)
      · have c11 := i_nle ki_16 rfl c11
        refine lv_iload_n hx hb dX10_bits_10 rfl (lv_at hl 1 rfl) ?_
        refine lv_iload_n hx hb dX10_bits_11 rfl (lv_at hl 2 rfl) ?_
        refine lv_iload_n hx hb dX10_bits_12 rfl (lv_at hl 0 rfl) ?_
        refine lv_ishr hx hb dX10_bits_13 ?_
        refine lv_topi (fun v12 ev12 => ?_)
        refine lv_iconst (v := 1) hx hb dX10_bits_14 (by decide) ?_
        refine lv_iand hx hb dX10_bits_15 ?_
        refine lv_topi (fun v13 ev13 => ?_)
        obtain ⟨sa14, sb15⟩ : 0 ≤ v13.toInt ∧ v13.toInt ≤ 1 := and_m 1 (by decide) (by decide) ev13
        refine lv_iadd hx hb dX10_bits_16 ?_
        refine lv_topi (fun v16 ev16 => ?_)
        have tv16 : v16.toInt = x3.toInt + v13.toInt := ti_add rfl rfl ev16 (by omega) (by omega)
        refine lv_istore_n (lv' := [(1, .int v16), (2, .int x4), (0, .int p0)]) hx hb dX10_bits_17 rfl hl (by decide) rfl (fun ls hl => ?_)
        obtain ⟨v17, ev17⟩ : ∃ y : Int32, y = x4 + 1 := ⟨_, rfl⟩
        have tv17 : v17.toInt = x4.toInt + 1 := ti_add rfl ki_1 ev17 (by omega) (by omega)
        refine lv_iinc (v := v17) (lv' := [(2, .int v17), (1, .int v16), (0, .int p0)]) hx hb dX10_bits_18 hl (k := 1) rfl (by rw [ev17]; rfl) (by decide) rfl (fun ls hl => ?_)
        refine lv_goto (tgt := 4) hx hb dX10_bits_21 (by decide) ?_
        exact ih9 v16 v17 (by omega) (by omega) (by omega) (by omega) (by omega) (by omega) _ _ hP hD hS ls (lv_sub hl [0, 1, 2] rfl)
  exact lp1 17 0 0 (by rw [ki_0]; decide) (by rw [ki_0]; decide) (by rw [ki_0]; decide) (by rw [ki_0]; decide) (by omega) (by rw [ki_0]; decide) _ _ hP hD hS ls (lv_sub hl [0, 1, 2] rfl)
set_option maxHeartbeats 4000000 in
set_option maxRecDepth 100000 in
theorem f_X10_bit (l : Launch) (G : va_G) (cI cJ cZ cB cQ : ClassId) (sz : Nat) (p0 : Int32) (a0 : Int) (p1 : Int32) (a1 : Int) (hp0 : p0.toInt = a0) (hp1 : p1.toInt = a1) : CI l yX10_bit (wl_ yX10_bit cX10_bit 2 (some .int)) ({ frames := 0, cells := 0, slots := 0, locals := 0 } : Room) G (TY cI cJ cZ cB cQ) [.int p0, .int p1] [] sz (fun (r : Int32) (u : Unit) => 0 ≤ r.toInt ∧ r.toInt ≤ 1 ∧ r = bitF p0 p1) (fun _ : Unit => []) 0 0 := by
  refine CI.go (cc := cX10_bit) (maxL := 2) (ret := (some .int)) (by decide) rfl (Nat.le_of_ble_eq_true rfl) ?_
  intro p e s m below meth c A ls Q hBd hret
  obtain ⟨hx, hb, hr, hml, hts, hown, hlk, hnm, hP, hK, hD, hA, hZ, hl⟩ := hBd
  have hown : s.vm.findClass RX10 = some m.cls := hown
  have hl : lv_has ls 2 [(0, .int p0), (1, .int p1)] := hl
  have hS : va_S A s.heap s.heap [] := va_S.rf
  refine lv_iload_n hx hb dX10_bit_0 rfl (lv_at hl 0 rfl) ?_
  refine lv_iload_n hx hb dX10_bit_1 rfl (lv_at hl 1 rfl) ?_
  refine lv_ishr hx hb dX10_bit_2 ?_
  refine lv_topi (fun v1 ev1 => ?_)
  refine lv_iconst (v := 1) hx hb dX10_bit_3 (by decide) ?_
  refine lv_iand hx hb dX10_bit_4 ?_
  refine lv_topi (fun v2 ev2 => ?_)
  obtain ⟨sa3, sb4⟩ : 0 ≤ v2.toInt ∧ v2.toInt ≤ 1 := and_m 1 (by decide) (by decide) ev2
  exact hret _ _ _ _ v2 () hP hD hS dX10_bit_5 (show 0 ≤ v2.toInt ∧ v2.toInt ≤ 1 ∧ v2 = bitF p0 p1 from ⟨sa3, sb4, (by rw [ev2, ev1]; rfl)⟩)
set_option maxHeartbeats 4000000 in
set_option maxRecDepth 100000 in
theorem f_X10_acrossOf (l : Launch) (G : va_G) (cI cJ cZ cB cQ : ClassId) (sz : Nat) (p0 : Int32) (a0 : Int) (hp0 : p0.toInt = a0) : CI l yX10_acrossOf (wl_ yX10_acrossOf cX10_acrossOf 1 (some .int)) ({ frames := 0, cells := 0, slots := 0, locals := 0 } : Room) G (TY cI cJ cZ cB cQ) [.int p0] [] sz (fun (r : Int32) (u : Unit) => (-1) ≤ r.toInt ∧ r.toInt ≤ 1 ∧ r.toInt = ac a0) (fun _ : Unit => []) 0 0 := by
  refine CI.go (cc := cX10_acrossOf) (maxL := 1) (ret := (some .int)) (by decide) rfl (Nat.le_of_ble_eq_true rfl) ?_
  intro p e s m below meth c A ls Q hBd hret
  obtain ⟨hx, hb, hr, hml, hts, hown, hlk, hnm, hP, hK, hD, hA, hZ, hl⟩ := hBd
  have hown : s.vm.findClass RX10 = some m.cls := hown
  have hl : lv_has ls 1 [(0, .int p0)] := hl
  have hS : va_S A s.heap s.heap [] := va_S.rf
  refine lv_iload_n hx hb dX10_acrossOf_0 rfl (lv_at hl 0 rfl) ?_
  refine lv_iconst (v := 1) hx hb dX10_acrossOf_1 (by decide) ?_
  refine lv_icmp_ne (tgt := 9) hx hb dX10_acrossOf_2 (by decide) (fun c1 => ?_) (fun c1 => ?_)
  · have c1 := i_ne hp0 ki_1 c1
    refine lv_iload_n hx hb dX10_acrossOf_9 rfl (lv_at hl 0 rfl) ?_
    refine lv_iconst (v := 3) hx hb dX10_acrossOf_10 (by decide) ?_
    refine lv_icmp_ne (tgt := 18) hx hb dX10_acrossOf_11 (by decide) (fun c2 => ?_) (fun c2 => ?_)
    · have c2 := i_ne hp0 ki_3 c2
      refine lv_iconst (v := 0) hx hb dX10_acrossOf_18 (by decide) ?_
      exact hret _ _ _ _ 0 () hP hD hS dX10_acrossOf_19 (show (-1) ≤ (0 : Int32).toInt ∧ (0 : Int32).toInt ≤ 1 ∧ (0 : Int32).toInt = ac a0 from ⟨(by rw [ki_0]; decide), (by rw [ki_0]; decide), (by rw [ki_0]; unfold ac; (repeat' split) <;> omega)⟩)
    · have c2 := i_eq hp0 ki_3 c2
      refine lv_iconst (v := (-1)) hx hb dX10_acrossOf_14 (by decide) ?_
      refine lv_goto (tgt := 19) hx hb dX10_acrossOf_15 (by decide) ?_
      exact hret _ _ _ _ (-1) () hP hD hS dX10_acrossOf_19 (show (-1) ≤ ((-1) : Int32).toInt ∧ ((-1) : Int32).toInt ≤ 1 ∧ ((-1) : Int32).toInt = ac a0 from ⟨(by rw [ki_m1]; decide), (by rw [ki_m1]; decide), (by rw [ki_m1]; unfold ac; (repeat' split) <;> omega)⟩)
  · have c1 := i_eq hp0 ki_1 c1
    refine lv_iconst (v := 1) hx hb dX10_acrossOf_5 (by decide) ?_
    refine lv_goto (tgt := 19) hx hb dX10_acrossOf_6 (by decide) ?_
    exact hret _ _ _ _ 1 () hP hD hS dX10_acrossOf_19 (show (-1) ≤ (1 : Int32).toInt ∧ (1 : Int32).toInt ≤ 1 ∧ (1 : Int32).toInt = ac a0 from ⟨(by rw [ki_1]; decide), (by rw [ki_1]; decide), (by rw [ki_1]; unfold ac; (repeat' split) <;> omega)⟩)
set_option maxHeartbeats 4000000 in
set_option maxRecDepth 100000 in
theorem f_X10_downOf (l : Launch) (G : va_G) (cI cJ cZ cB cQ : ClassId) (sz : Nat) (p0 : Int32) (a0 : Int) (hp0 : p0.toInt = a0) : CI l yX10_downOf (wl_ yX10_downOf cX10_downOf 1 (some .int)) ({ frames := 0, cells := 0, slots := 0, locals := 0 } : Room) G (TY cI cJ cZ cB cQ) [.int p0] [] sz (fun (r : Int32) (u : Unit) => (-1) ≤ r.toInt ∧ r.toInt ≤ 1 ∧ r.toInt = dn a0) (fun _ : Unit => []) 0 0 := by
  refine CI.go (cc := cX10_downOf) (maxL := 1) (ret := (some .int)) (by decide) rfl (Nat.le_of_ble_eq_true rfl) ?_
  intro p e s m below meth c A ls Q hBd hret
  obtain ⟨hx, hb, hr, hml, hts, hown, hlk, hnm, hP, hK, hD, hA, hZ, hl⟩ := hBd
  have hown : s.vm.findClass RX10 = some m.cls := hown
  have hl : lv_has ls 1 [(0, .int p0)] := hl
  have hS : va_S A s.heap s.heap [] := va_S.rf
  refine lv_iload_n hx hb dX10_downOf_0 rfl (lv_at hl 0 rfl) ?_
  refine lv_iconst (v := 2) hx hb dX10_downOf_1 (by decide) ?_
  refine lv_icmp_ne (tgt := 9) hx hb dX10_downOf_2 (by decide) (fun c1 => ?_) (fun c1 => ?_)
  · have c1 := i_ne hp0 ki_2 c1
    refine lv_iload_n hx hb dX10_downOf_9 rfl (lv_at hl 0 rfl) ?_
    refine lv_if_ne (tgt := 17) hx hb dX10_downOf_10 (by decide) (fun c2 => ?_) (fun c2 => ?_)
    · have c2 := i_ne hp0 ki_0 c2
      refine lv_iconst (v := 0) hx hb dX10_downOf_17 (by decide) ?_
      exact hret _ _ _ _ 0 () hP hD hS dX10_downOf_18 (show (-1) ≤ (0 : Int32).toInt ∧ (0 : Int32).toInt ≤ 1 ∧ (0 : Int32).toInt = dn a0 from ⟨(by rw [ki_0]; decide), (by rw [ki_0]; decide), (by rw [ki_0]; unfold dn; (repeat' split) <;> omega)⟩)
    · have c2 := i_eq hp0 ki_0 c2
      refine lv_iconst (v := (-1)) hx hb dX10_downOf_13 (by decide) ?_
      refine lv_goto (tgt := 18) hx hb dX10_downOf_14 (by decide) ?_
      exact hret _ _ _ _ (-1) () hP hD hS dX10_downOf_18 (show (-1) ≤ ((-1) : Int32).toInt ∧ ((-1) : Int32).toInt ≤ 1 ∧ ((-1) : Int32).toInt = dn a0 from ⟨(by rw [ki_m1]; decide), (by rw [ki_m1]; decide), (by rw [ki_m1]; unfold dn; (repeat' split) <;> omega)⟩)
  · have c1 := i_eq hp0 ki_2 c1
    refine lv_iconst (v := 1) hx hb dX10_downOf_5 (by decide) ?_
    refine lv_goto (tgt := 18) hx hb dX10_downOf_6 (by decide) ?_
    exact hret _ _ _ _ 1 () hP hD hS dX10_downOf_18 (show (-1) ≤ (1 : Int32).toInt ∧ (1 : Int32).toInt ≤ 1 ∧ (1 : Int32).toInt = dn a0 from ⟨(by rw [ki_1]; decide), (by rw [ki_1]; decide), (by rw [ki_1]; unfold dn; (repeat' split) <;> omega)⟩)
set_option maxHeartbeats 4000000 in
set_option maxRecDepth 100000 in
theorem f_X10_isSlot (l : Launch) (G : va_G) (cI cJ cZ cB cQ : ClassId) (sz : Nat) (p0 : Int32) (a0 : Int) (hp0 : p0.toInt = a0) : CI l yX10_isSlot (wl_ yX10_isSlot cX10_isSlot 1 (some .boolean)) ({ frames := 1, cells := 0, slots := 0, locals := 25 } : Room) G (TY cI cJ cZ cB cQ) [.int p0] [] sz (fun (r : Int32) (u : Unit) => ((r = 1 ∧ 0 ≤ a0 ∧ a0 ≤ 3) ∨ (r = 0 ∧ (a0 < 0 ∨ 3 < a0)))) (fun _ : Unit => []) 0 0 := by
  refine CI.goz (cc := cX10_isSlot) (maxL := 1) (ret := (some .boolean)) (by decide) rfl (Nat.le_of_ble_eq_true rfl) ?_
  intro p e s m below meth c A ls Q hBd hret
  obtain ⟨hx, hb, hr, hml, hts, hown, hlk, hnm, hP, hK, hD, hA, hZ, hl⟩ := hBd
  have hown : s.vm.findClass RX10 = some m.cls := hown
  have hl : lv_has ls 1 [(0, .int p0)] := hl
  have hS : va_S A s.heap s.heap [] := va_S.rf
  refine lv_iload_n hx hb dX10_isSlot_0 rfl (lv_at hl 0 rfl) ?_
  obtain ⟨v1, ev1⟩ : ∃ y : Int64, p0.toInt64 = y := ⟨_, rfl⟩
  have tv1 : v1.toInt = a0 := ti_wide hp0 ev1
  refine lv_i2l (v := v1) hx hb dX10_isSlot_1 ev1 ?_
  refine lv_lconst (v := 0) hx hb dX10_isSlot_2 (by decide) ?_
  refine lv_ldc2 (v := 3) hx hb hown (hts _ w_1819) dX10_isSlot_3 ?_
  refine k_i (wc := []) (wr := []) hP hD hS hA [] [] rfl rfl rfl (by decide) (va_runS (As := [.long v1, .long 0, .long 3]) (rest := []) ⟨hx, hb, hml, hown, hts⟩ (f_X10_in l G cI cJ cZ cB cQ _ v1 a0 0 0 3 3 tv1 kl_0 kl_3) (va_cwS 3 hts (gS w_1336 w_1337 w_11 w_1338) rfl rfl rfl hd_X10_in ⟨Nat.le_of_ble_eq_true rfl, Nat.le_of_ble_eq_true rfl⟩) (mS hK hZ hP hD [] rfl rfl [.long v1, .long 0, .long 3]) rfl rfl hl.1 rfl (lv_room (Nat.le_of_ble_eq_true rfl)) dX10_isSlot_6 ⟨Nat.le_of_ble_eq_true rfl, Nat.le_of_ble_eq_true rfl⟩) (fun r2 u3 H locs hw4 hP hD hS => ?_)
  try dsimp only at hw4
  have hP : va_P G vwCl [] H := hP
  have hD : va_D A [] := hD
  rcases hw4 with ⟨rfl, a6, a7⟩ | ⟨rfl, a8⟩
  · skip
    exact hret _ _ _ _ 1 () hP hD hS dX10_isSlot_9 rfl (show (((1 : Int32) = 1 ∧ 0 ≤ a0 ∧ a0 ≤ 3) ∨ ((1 : Int32) = 0 ∧ (a0 < 0 ∨ 3 < a0))) from (Or.inl ⟨rfl, by omega, by omega⟩))
  · skip
    exact hret _ _ _ _ 0 () hP hD hS dX10_isSlot_9 rfl (show (((0 : Int32) = 1 ∧ 0 ≤ a0 ∧ a0 ≤ 3) ∨ ((0 : Int32) = 0 ∧ (a0 < 0 ∨ 3 < a0))) from (Or.inr ⟨rfl, by omega⟩))
set_option maxHeartbeats 4000000 in
set_option maxRecDepth 100000 in
theorem f_X10_isSeed (l : Launch) (G : va_G) (cI cJ cZ cB cQ : ClassId) (sz : Nat) (p0 : Int32) (a0 : Int) (hp0 : p0.toInt = a0) : CI l yX10_isSeed (wl_ yX10_isSeed cX10_isSeed 1 (some .boolean)) ({ frames := 1, cells := 0, slots := 0, locals := 25 } : Room) G (TY cI cJ cZ cB cQ) [.int p0] [] sz (fun (r : Int32) (u : Unit) => 0 ≤ r.toInt ∧ r.toInt ≤ 1) (fun _ : Unit => []) 0 0 := by
  refine CI.goz (cc := cX10_isSeed) (maxL := 1) (ret := (some .boolean)) (by decide) rfl (Nat.le_of_ble_eq_true rfl) ?_
  intro p e s m below meth c A ls Q hBd hret
  obtain ⟨hx, hb, hr, hml, hts, hown, hlk, hnm, hP, hK, hD, hA, hZ, hl⟩ := hBd
  have hown : s.vm.findClass RX10 = some m.cls := hown
  have hl : lv_has ls 1 [(0, .int p0)] := hl
  have hS : va_S A s.heap s.heap [] := va_S.rf
  refine lv_iload_n hx hb dX10_isSeed_0 rfl (lv_at hl 0 rfl) ?_
  obtain ⟨v1, ev1⟩ : ∃ y : Int64, p0.toInt64 = y := ⟨_, rfl⟩
  have tv1 : v1.toInt = a0 := ti_wide hp0 ev1
  refine lv_i2l (v := v1) hx hb dX10_isSeed_1 ev1 ?_
  refine lv_lconst (v := 0) hx hb dX10_isSeed_2 (by decide) ?_
  refine lv_ldc2 (v := 2000000000) hx hb hown (hts _ w_1951) dX10_isSeed_3 ?_
  refine k_i (wc := []) (wr := []) hP hD hS hA [] [] rfl rfl rfl (by decide) (va_runS (As := [.long v1, .long 0, .long 2000000000]) (rest := []) ⟨hx, hb, hml, hown, hts⟩ (f_X10_in l G cI cJ cZ cB cQ _ v1 a0 0 0 2000000000 2000000000 tv1 kl_0 kl_2000000000) (va_cwS 3 hts (gS w_1336 w_1337 w_11 w_1338) rfl rfl rfl hd_X10_in ⟨Nat.le_of_ble_eq_true rfl, Nat.le_of_ble_eq_true rfl⟩) (mS hK hZ hP hD [] rfl rfl [.long v1, .long 0, .long 2000000000]) rfl rfl hl.1 rfl (lv_room (Nat.le_of_ble_eq_true rfl)) dX10_isSeed_6 ⟨Nat.le_of_ble_eq_true rfl, Nat.le_of_ble_eq_true rfl⟩) (fun r2 u3 H locs hw4 hP hD hS => ?_)
  try dsimp only at hw4
  have hP : va_P G vwCl [] H := hP
  have hD : va_D A [] := hD
  rcases hw4 with ⟨rfl, a6, a7⟩ | ⟨rfl, a8⟩
  · skip
    exact hret _ _ _ _ 1 () hP hD hS dX10_isSeed_9 rfl (show 0 ≤ (1 : Int32).toInt ∧ (1 : Int32).toInt ≤ 1 from ⟨(by rw [ki_1]; decide), (by rw [ki_1]; decide)⟩)
  · skip
    exact hret _ _ _ _ 0 () hP hD hS dX10_isSeed_9 rfl (show 0 ≤ (0 : Int32).toInt ∧ (0 : Int32).toInt ≤ 1 from ⟨(by rw [ki_0]; decide), (by rw [ki_0]; decide)⟩)
set_option maxHeartbeats 4000000 in
set_option maxRecDepth 100000 in
theorem f_X10_clipped (l : Launch) (G : va_G) (cI cJ cZ cB cQ : ClassId) (sz : Nat) (p0 : Int64) (a0 : Int) (p1 : Int32) (a1 : Int) (hp0 : p0.toInt = a0) (hp1 : p1.toInt = a1) : CL l yX10_clipped (wl_ yX10_clipped cX10_clipped 4 (some .long)) ({ frames := 0, cells := 0, slots := 0, locals := 0 } : Room) G (TY cI cJ cZ cB cQ) [.long p0, .int p1] [] sz (fun (r : Int64) (u : Unit) => True) (fun _ : Unit => []) 0 0 := by
  refine CL.go (cc := cX10_clipped) (maxL := 4) (ret := (some .long)) (by decide) rfl (Nat.le_of_ble_eq_true rfl) ?_
  intro p e s m below meth c A ls Q hBd hret
  obtain ⟨hx, hb, hr, hml, hts, hown, hlk, hnm, hP, hK, hD, hA, hZ, hl⟩ := hBd
  have hown : s.vm.findClass RX10 = some m.cls := hown
  have hl : lv_has ls 4 [(0, .long p0), (2, .int p1)] := hl
  have hS : va_S A s.heap s.heap [] := va_S.rf
  refine lv_bipush (v := 64) hx hb dX10_clipped_0 (by decide) ?_
  refine lv_bipush (v := 8) hx hb dX10_clipped_2 (by decide) ?_
  refine lv_iload_n hx hb dX10_clipped_4 rfl (lv_at hl 1 rfl) ?_
  refine lv_ishl hx hb dX10_clipped_5 ?_
  refine lv_topi (fun v1 ev1 => ?_)
  refine lv_isub hx hb dX10_clipped_6 ?_
  refine lv_topi (fun v2 ev2 => ?_)
  refine lv_istore_n (lv' := [(3, .int v2), (0, .long p0), (2, .int p1)]) hx hb dX10_clipped_7 rfl hl (by decide) rfl (fun ls hl => ?_)
  refine lv_lload_n hx hb dX10_clipped_8 rfl (lv_at hl 1 rfl) ?_
  refine lv_iload_n hx hb dX10_clipped_9 rfl (lv_at hl 0 rfl) ?_
  refine lv_lshl hx hb dX10_clipped_10 rfl ?_
  refine lv_topl (fun v3 ev3 => ?_)
  refine lv_iload_n hx hb dX10_clipped_11 rfl (lv_at hl 0 rfl) ?_
  refine lv_lshr hx hb dX10_clipped_12 rfl ?_
  refine lv_topl (fun v4 ev4 => ?_)
  exact hret _ _ _ _ v4 () hP hD hS dX10_clipped_13 trivial
set_option maxHeartbeats 4000000 in
set_option maxRecDepth 100000 in
theorem f_X10_factorialx (l : Launch) (G : va_G) (cI cJ cZ cB cQ : ClassId) (sz : Nat) (p0 : Int32) (a0 : Int) (hp0 : p0.toInt = a0) (la0 : 0 ≤ a0) (ha0 : a0 ≤ 7) : CI l yX10_factorial (wl_ yX10_factorial cX10_factorial 3 (some .int)) ({ frames := 0, cells := 0, slots := 0, locals := 0 } : Room) G (TY cI cJ cZ cB cQ) [.int p0] [] sz (fun (r : Int32) (u : Unit) => 1 ≤ r.toInt ∧ r.toInt ≤ 5040) (fun _ : Unit => []) 0 0 := by
  refine CI.go (cc := cX10_factorial) (maxL := 3) (ret := (some .int)) (by decide) rfl (Nat.le_of_ble_eq_true rfl) ?_
  intro p e s m below meth c A ls Q hBd hret
  obtain ⟨hx, hb, hr, hml, hts, hown, hlk, hnm, hP, hK, hD, hA, hZ, hl⟩ := hBd
  have hown : s.vm.findClass RX10 = some m.cls := hown
  have hl : lv_has ls 3 [(0, .int p0)] := hl
  have hS : va_S A s.heap s.heap [] := va_S.rf
  refine lv_iconst (v := 1) hx hb dX10_factorial_0 (by decide) ?_
  refine lv_istore_n (lv' := [(1, .int 1), (0, .int p0)]) hx hb dX10_factorial_1 rfl hl (by decide) rfl (fun ls hl => ?_)
  refine lv_iconst (v := 2) hx hb dX10_factorial_2 (by decide) ?_
  refine lv_istore_n (lv' := [(2, .int 2), (1, .int 1), (0, .int p0)]) hx hb dX10_factorial_3 rfl hl (by decide) rfl (fun ls hl => ?_)
  refine lv_iload_n hx hb dX10_factorial_4 rfl (lv_at hl 0 rfl) ?_
  refine lv_iload_n hx hb dX10_factorial_5 rfl (lv_at hl 2 rfl) ?_
  refine lv_icmp_gt (tgt := 19) hx hb dX10_factorial_6 (by decide) (fun c1 => ?_) (fun c1 => ?_)
  · have c1 := i_lt hp0 ki_2 c1
    refine lv_iload_n hx hb dX10_factorial_19 rfl (lv_at hl 1 rfl) ?_
    exact hret _ _ _ _ 1 () hP hD hS dX10_factorial_20 (show 1 ≤ (1 : Int32).toInt ∧ (1 : Int32).toInt ≤ 5040 from ⟨(by rw [ki_1]; decide), (by rw [ki_1]; decide)⟩)
  · have c1 := i_nlt hp0 ki_2 c1
    refine lv_iload_n hx hb dX10_factorial_9 rfl (lv_at hl 1 rfl) ?_
    refine lv_iload_n hx hb dX10_factorial_10 rfl (lv_at hl 0 rfl) ?_
    refine lv_imul hx hb dX10_factorial_11 ?_
    refine lv_topi (fun v2 ev2 => ?_)
    obtain rfl : v2 = 2 := ev2.trans (by decide)
    refine lv_istore_n (lv' := [(1, .int 2), (2, .int 2), (0, .int p0)]) hx hb dX10_factorial_12 rfl hl (by decide) rfl (fun ls hl => ?_)
    refine lv_iinc (v := 3) (lv' := [(2, .int 3), (1, .int 2), (0, .int p0)]) hx hb dX10_factorial_13 hl (k := 1) rfl (by decide) (by decide) rfl (fun ls hl => ?_)
    refine lv_goto (tgt := 4) hx hb dX10_factorial_16 (by decide) ?_
    refine lv_iload_n hx hb dX10_factorial_4 rfl (lv_at hl 0 rfl) ?_
    refine lv_iload_n hx hb dX10_factorial_5 rfl (lv_at hl 2 rfl) ?_
    refine lv_icmp_gt (tgt := 19) hx hb dX10_factorial_6 (by decide) (fun c3 => ?_) (fun c3 => ?_)
    · have c3 := i_lt hp0 ki_3 c3
      refine lv_iload_n hx hb dX10_factorial_19 rfl (lv_at hl 1 rfl) ?_
      exact hret _ _ _ _ 2 () hP hD hS dX10_factorial_20 (show 1 ≤ (2 : Int32).toInt ∧ (2 : Int32).toInt ≤ 5040 from ⟨(by rw [ki_2]; decide), (by rw [ki_2]; decide)⟩)
    · have c3 := i_nlt hp0 ki_3 c3
      refine lv_iload_n hx hb dX10_factorial_9 rfl (lv_at hl 1 rfl) ?_
      refine lv_iload_n hx hb dX10_factorial_10 rfl (lv_at hl 0 rfl) ?_
      refine lv_imul hx hb dX10_factorial_11 ?_
      refine lv_topi (fun v4 ev4 => ?_)
      obtain rfl : v4 = 6 := ev4.trans (by decide)
      refine lv_istore_n (lv' := [(1, .int 6), (2, .int 3), (0, .int p0)]) hx hb dX10_factorial_12 rfl hl (by decide) rfl (fun ls hl => ?_)
      refine lv_iinc (v := 4) (lv' := [(2, .int 4), (1, .int 6), (0, .int p0)]) hx hb dX10_factorial_13 hl (k := 1) rfl (by decide) (by decide) rfl (fun ls hl => ?_)
      refine lv_goto (tgt := 4) hx hb dX10_factorial_16 (by decide) ?_
      refine lv_iload_n hx hb dX10_factorial_4 rfl (lv_at hl 0 rfl) ?_
      refine lv_iload_n hx hb dX10_factorial_5 rfl (lv_at hl 2 rfl) ?_
      refine lv_icmp_gt (tgt := 19) hx hb dX10_factorial_6 (by decide) (fun c5 => ?_) (fun c5 => ?_)
      · have c5 := i_lt hp0 ki_4 c5
        refine lv_iload_n hx hb dX10_factorial_19 rfl (lv_at hl 1 rfl) ?_
        exact hret _ _ _ _ 6 () hP hD hS dX10_factorial_20 (show 1 ≤ (6 : Int32).toInt ∧ (6 : Int32).toInt ≤ 5040 from ⟨(by rw [ki_6]; decide), (by rw [ki_6]; decide)⟩)
      · have c5 := i_nlt hp0 ki_4 c5
        refine lv_iload_n hx hb dX10_factorial_9 rfl (lv_at hl 1 rfl) ?_
        refine lv_iload_n hx hb dX10_factorial_10 rfl (lv_at hl 0 rfl) ?_
        refine lv_imul hx hb dX10_factorial_11 ?_
        refine lv_topi (fun v6 ev6 => ?_)
        obtain rfl : v6 = 24 := ev6.trans (by decide)
        refine lv_istore_n (lv' := [(1, .int 24), (2, .int 4), (0, .int p0)]) hx hb dX10_factorial_12 rfl hl (by decide) rfl (fun ls hl => ?_)
        refine lv_iinc (v := 5) (lv' := [(2, .int 5), (1, .int 24), (0, .int p0)]) hx hb dX10_factorial_13 hl (k := 1) rfl (by decide) (by decide) rfl (fun ls hl => ?_)
        refine lv_goto (tgt := 4) hx hb dX10_factorial_16 (by decide) ?_
        refine lv_iload_n hx hb dX10_factorial_4 rfl (lv_at hl 0 rfl) ?_
        refine lv_iload_n hx hb dX10_factorial_5 rfl (lv_at hl 2 rfl) ?_
        refine lv_icmp_gt (tgt := 19) hx hb dX10_factorial_6 (by decide) (fun c7 => ?_) (fun c7 => ?_)
        · have c7 := i_lt hp0 ki_5 c7
          refine lv_iload_n hx hb dX10_factorial_19 rfl (lv_at hl 1 rfl) ?_
          exact hret _ _ _ _ 24 () hP hD hS dX10_factorial_20 (show 1 ≤ (24 : Int32).toInt ∧ (24 : Int32).toInt ≤ 5040 from ⟨(by rw [ki_24]; decide), (by rw [ki_24]; decide)⟩)
        · have c7 := i_nlt hp0 ki_5 c7
          refine lv_iload_n hx hb dX10_factorial_9 rfl (lv_at hl 1 rfl) ?_
          refine lv_iload_n hx hb dX10_factorial_10 rfl (lv_at hl 0 rfl) ?_
          refine lv_imul hx hb dX10_factorial_11 ?_
          refine lv_topi (fun v8 ev8 => ?_)
          obtain rfl : v8 = 120 := ev8.trans (by decide)
          refine lv_istore_n (lv' := [(1, .int 120), (2, .int 5), (0, .int p0)]) hx hb dX10_factorial_12 rfl hl (by decide) rfl (fun ls hl => ?_)
          refine lv_iinc (v := 6) (lv' := [(2, .int 6), (1, .int 120), (0, .int p0)]) hx hb dX10_factorial_13 hl (k := 1) rfl (by decide) (by decide) rfl (fun ls hl => ?_)
          refine lv_goto (tgt := 4) hx hb dX10_factorial_16 (by decide) ?_
          refine lv_iload_n hx hb dX10_factorial_4 rfl (lv_at hl 0 rfl) ?_
          refine lv_iload_n hx hb dX10_factorial_5 rfl (lv_at hl 2 rfl) ?_
          refine lv_icmp_gt (tgt := 19) hx hb dX10_factorial_6 (by decide) (fun c9 => ?_) (fun c9 => ?_)
          · have c9 := i_lt hp0 ki_6 c9
            refine lv_iload_n hx hb dX10_factorial_19 rfl (lv_at hl 1 rfl) ?_
            exact hret _ _ _ _ 120 () hP hD hS dX10_factorial_20 (show 1 ≤ (120 : Int32).toInt ∧ (120 : Int32).toInt ≤ 5040 from ⟨(by rw [ki_120]; decide), (by rw [ki_120]; decide)⟩)
          · have c9 := i_nlt hp0 ki_6 c9
            refine lv_iload_n hx hb dX10_factorial_9 rfl (lv_at hl 1 rfl) ?_
            refine lv_iload_n hx hb dX10_factorial_10 rfl (lv_at hl 0 rfl) ?_
            refine lv_imul hx hb dX10_factorial_11 ?_
            refine lv_topi (fun v10 ev10 => ?_)
            obtain rfl : v10 = 720 := ev10.trans (by decide)
            refine lv_istore_n (lv' := [(1, .int 720), (2, .int 6), (0, .int p0)]) hx hb dX10_factorial_12 rfl hl (by decide) rfl (fun ls hl => ?_)
            refine lv_iinc (v := 7) (lv' := [(2, .int 7), (1, .int 720), (0, .int p0)]) hx hb dX10_factorial_13 hl (k := 1) rfl (by decide) (by decide) rfl (fun ls hl => ?_)
            refine lv_goto (tgt := 4) hx hb dX10_factorial_16 (by decide) ?_
            refine lv_iload_n hx hb dX10_factorial_4 rfl (lv_at hl 0 rfl) ?_
            refine lv_iload_n hx hb dX10_factorial_5 rfl (lv_at hl 2 rfl) ?_
            refine lv_icmp_gt (tgt := 19) hx hb dX10_factorial_6 (by decide) (fun c11 => ?_) (fun c11 => ?_)
            · have c11 := i_lt hp0 ki_7 c11
              refine lv_iload_n hx hb dX10_factorial_19 rfl (lv_at hl 1 rfl) ?_
              exact hret _ _ _ _ 720 () hP hD hS dX10_factorial_20 (show 1 ≤ (720 : Int32).toInt ∧ (720 : Int32).toInt ≤ 5040 from ⟨(by rw [ki_720]; decide), (by rw [ki_720]; decide)⟩)
            · have c11 := i_nlt hp0 ki_7 c11
              refine lv_iload_n hx hb dX10_factorial_9 rfl (lv_at hl 1 rfl) ?_
              refine lv_iload_n hx hb dX10_factorial_10 rfl (lv_at hl 0 rfl) ?_
              refine lv_imul hx hb dX10_factorial_11 ?_
              refine lv_topi (fun v12 ev12 => ?_)
              obtain rfl : v12 = 5040 := ev12.trans (by decide)
              refine lv_istore_n (lv' := [(1, .int 5040), (2, .int 7), (0, .int p0)]) hx hb dX10_factorial_12 rfl hl (by decide) rfl (fun ls hl => ?_)
              refine lv_iinc (v := 8) (lv' := [(2, .int 8), (1, .int 5040), (0, .int p0)]) hx hb dX10_factorial_13 hl (k := 1) rfl (by decide) (by decide) rfl (fun ls hl => ?_)
              refine lv_goto (tgt := 4) hx hb dX10_factorial_16 (by decide) ?_
              refine lv_iload_n hx hb dX10_factorial_4 rfl (lv_at hl 0 rfl) ?_
              refine lv_iload_n hx hb dX10_factorial_5 rfl (lv_at hl 2 rfl) ?_
              refine lv_icmp_gt (tgt := 19) hx hb dX10_factorial_6 (by decide) (fun c13 => ?_) (fun c13 => absurd (i_nlt hp0 ki_8 c13) (by omega))
              have c13 := i_lt hp0 ki_8 c13
              refine lv_iload_n hx hb dX10_factorial_19 rfl (lv_at hl 1 rfl) ?_
              exact hret _ _ _ _ 5040 () hP hD hS dX10_factorial_20 (show 1 ≤ (5040 : Int32).toInt ∧ (5040 : Int32).toInt ≤ 5040 from ⟨(by rw [ki_5040]; decide), (by rw [ki_5040]; decide)⟩)
set_option maxHeartbeats 4000000 in
set_option maxRecDepth 100000 in
theorem f_X10_factorial (l : Launch) (G : va_G) (cI cJ cZ cB cQ : ClassId) (sz : Nat) (p0 : Int32) (a0 : Int) (hp0 : p0.toInt = a0) (la0 : (-100) ≤ a0) (ha0 : a0 ≤ 100) : CI l yX10_factorial (wl_ yX10_factorial cX10_factorial 3 (some .int)) ({ frames := 0, cells := 0, slots := 0, locals := 0 } : Room) G (TY cI cJ cZ cB cQ) [.int p0] [] sz (fun (r : Int32) (u : Unit) => True) (fun _ : Unit => []) 0 0 := by
  refine CI.go (cc := cX10_factorial) (maxL := 3) (ret := (some .int)) (by decide) rfl (Nat.le_of_ble_eq_true rfl) ?_
  intro p e s m below meth c A ls Q hBd hret
  obtain ⟨hx, hb, hr, hml, hts, hown, hlk, hnm, hP, hK, hD, hA, hZ, hl⟩ := hBd
  have hown : s.vm.findClass RX10 = some m.cls := hown
  have hl : lv_has ls 3 [(0, .int p0)] := hl
  have hS : va_S A s.heap s.heap [] := va_S.rf
  refine lv_iconst (v := 1) hx hb dX10_factorial_0 (by decide) ?_
  refine lv_istore_n (lv' := [(1, .int 1), (0, .int p0)]) hx hb dX10_factorial_1 rfl hl (by decide) rfl (fun ls hl => ?_)
  refine lv_iconst (v := 2) hx hb dX10_factorial_2 (by decide) ?_
  refine lv_istore_n (lv' := [(2, .int 2), (1, .int 1), (0, .int p0)]) hx hb dX10_factorial_3 rfl hl (by decide) rfl (fun ls hl => ?_)
  have lp1 : ∀ (n2 : Nat) (x3 : Int32) (x4 : Int32), 2 ≤ x4.toInt → x4.toInt ≤ 101 → 101 - x4.toInt < (n2 : Int) → ∀ (H : Heap) (locs : List Loc), va_P G vwCl [] H → va_D A [] → va_S A s.heap H locs → ∀ (ls : Array Slot), lv_has ls 3 [(2, .int x4), (1, .int x3), (0, .int p0)] → W p l e ({ frames := 0, cells := 0, slots := 0, locals := 0 } : Room) s m ([.int p0] : List Value).toArray below meth c H locs 0 0 Q (F0 m 4 ls []) := by
    intro n2
    induction n2 with
    | zero =>
      intro x3 x4 k5 k6 mm8
      exact absurd mm8 (by have q9 := fb_rng x4; omega)
    | succ n2 ih7 =>
      intro x3 x4 k5 k6 mm8 H locs hP hD hS ls hl
      refine lv_iload_n hx hb dX10_factorial_4 rfl (lv_at hl 0 rfl) ?_
      refine lv_iload_n hx hb dX10_factorial_5 rfl (lv_at hl 2 rfl) ?_
      refine lv_icmp_gt (tgt := 19) hx hb dX10_factorial_6 (by decide) (fun c9 => ?_) (fun c9 => ?_)
      · have c9 := i_lt hp0 rfl c9
        refine lv_iload_n hx hb dX10_factorial_19 rfl (lv_at hl 1 rfl) ?_
        exact hret _ _ _ _ x3 () hP hD hS dX10_factorial_20 trivial
      · have c9 := i_nlt hp0 rfl c9
        refine lv_iload_n hx hb dX10_factorial_9 rfl (lv_at hl 1 rfl) ?_
        refine lv_iload_n hx hb dX10_factorial_10 rfl (lv_at hl 0 rfl) ?_
        refine lv_imul hx hb dX10_factorial_11 ?_
        refine lv_topi (fun v10 ev10 => ?_)
        refine lv_istore_n (lv' := [(1, .int v10), (2, .int x4), (0, .int p0)]) hx hb dX10_factorial_12 rfl hl (by decide) rfl (fun ls hl => ?_)
        obtain ⟨v11, ev11⟩ : ∃ y : Int32, y = x4 + 1 := ⟨_, rfl⟩
        have tv11 : v11.toInt = x4.toInt + 1 := ti_add rfl ki_1 ev11 (by omega) (by omega)
        refine lv_iinc (v := v11) (lv' := [(2, .int v11), (1, .int v10), (0, .int p0)]) hx hb dX10_factorial_13 hl (k := 1) rfl (by rw [ev11]; rfl) (by decide) rfl (fun ls hl => ?_)
        refine lv_goto (tgt := 4) hx hb dX10_factorial_16 (by decide) ?_
        exact ih7 v10 v11 (by omega) (by omega) (by omega) _ _ hP hD hS ls (lv_sub hl [0, 1, 2] rfl)
  exact lp1 100 1 2 (by rw [ki_2]; decide) (by rw [ki_2]; decide) (by rw [ki_2]; decide) _ _ hP hD hS ls (lv_sub hl [0, 1, 2] rfl)
set_option maxHeartbeats 4000000 in
set_option maxRecDepth 100000 in
theorem f_X10_divisor (l : Launch) (G : va_G) (cI cJ cZ cB cQ : ClassId) (sz : Nat) (p0 : Int64) (a0 : Int) (p1 : Int64) (a1 : Int) (hp0 : p0.toInt = a0) (hp1 : p1.toInt = a1) (hn0 : ¬ a1 = 0) : CL l yX10_divisor (wl_ yX10_divisor cX10_divisor 10 (some .long)) ({ frames := 1, cells := 0, slots := 0, locals := 19 } : Room) G (TY cI cJ cZ cB cQ) [.long p0, .long p1] [] sz (fun (r : Int64) (u : Unit) => ¬ r.toInt = 0) (fun _ : Unit => []) 0 0 := by
  refine CL.go (cc := cX10_divisor) (maxL := 10) (ret := (some .long)) (by decide) rfl (Nat.le_of_ble_eq_true rfl) ?_
  intro p e s m below meth c A ls Q hBd hret
  obtain ⟨hx, hb, hr, hml, hts, hown, hlk, hnm, hP, hK, hD, hA, hZ, hl⟩ := hBd
  have hown : s.vm.findClass RX10 = some m.cls := hown
  have hl : lv_has ls 10 [(0, .long p0), (2, .long p1)] := hl
  have hS : va_S A s.heap s.heap [] := va_S.rf
  refine lv_lload_n hx hb dX10_divisor_0 rfl (lv_at hl 0 rfl) ?_
  refine va_mabs_long hx hb (by rw [hml]; exact hl.1.symm) hown (hts _ w_1894) (hts _ w_1039) (hts _ w_16) (hts _ w_1040) (Nat.le_of_ble_eq_true rfl) (Nat.le_of_ble_eq_true rfl) (Nat.le_of_ble_eq_true rfl) (Nat.le_of_ble_eq_true rfl) dX10_divisor_1 ?_
  refine lv_topl (fun v1 ev1 => ?_)
  refine lv_lstore (lv' := [(4, .long v1), (0, .long p0), (2, .long p1)]) hx hb dX10_divisor_4 hl (by decide) rfl (fun ls hl => ?_)
  refine lv_lload_n hx hb dX10_divisor_6 rfl (lv_at hl 2 rfl) ?_
  refine lv_lstore (lv' := [(6, .long p1), (4, .long v1), (0, .long p0), (2, .long p1)]) hx hb dX10_divisor_7 hl (by decide) rfl (fun ls hl => ?_)
  have lp2 : ∀ (n3 : Nat) (y4 : Int64) (y5 : Int64), ¬ y4.toInt = 0 ∨ ¬ y5.toInt = 0 → ((y5.toInt.natAbs : Nat) : Int) < (n3 : Int) → ∀ (H : Heap) (locs : List Loc), va_P G vwCl [] H → va_D A [] → va_S A s.heap H locs → ∀ (ls : Array Slot), lv_has ls 10 [(6, .long y5), (4, .long y4), (0, .long p0), (2, .long p1)] → W p l e ({ frames := 1, cells := 0, slots := 0, locals := 19 } : Room) s m ([.long p0, .long p1] : List Value).toArray below meth c H locs 0 0 Q (F0 m 9 ls []) := by
    intro n3
    induction n3 with
    | zero =>
      intro y4 y5 dx5 mm7
      exact absurd mm7 (by omega)
    | succ n3 ih6 =>
      intro y4 y5 dx5 mm7 H locs hP hD hS ls hl
      refine lv_lload hx hb dX10_divisor_9 (lv_at hl 0 rfl) ?_
      refine lv_lconst (v := 0) hx hb dX10_divisor_11 (by decide) ?_
      refine W.lcmp hx hb dX10_divisor_12 ?_
      refine lv_if_eq (tgt := 34) hx hb dX10_divisor_13 (by decide) (fun c8 => ?_) (fun c8 => ?_)
      · have c8 := c_eq rfl kl_0 c8
        refine lv_lload hx hb dX10_divisor_34 (lv_at hl 1 rfl) ?_
        exact hret _ _ _ _ y4 () hP hD hS dX10_divisor_36 (show ¬ y4.toInt = 0 from (by omega))
      · have c8 := c_neq rfl kl_0 c8
        refine lv_lload hx hb dX10_divisor_16 (lv_at hl 1 rfl) ?_
        refine lv_lload hx hb dX10_divisor_18 (lv_at hl 0 rfl) ?_
        refine lv_lrem hx hb dX10_divisor_20 (fun q => absurd (l_eq rfl kl_0 q) (by omega)) ?_
        refine lv_topl (fun v9 ev9 => ?_)
        refine lv_lstore (lv' := [(8, .long v9), (6, .long y5), (4, .long y4), (0, .long p0), (2, .long p1)]) hx hb dX10_divisor_21 hl (by decide) rfl (fun ls hl => ?_)
        refine lv_lload hx hb dX10_divisor_23 (lv_at hl 1 rfl) ?_
        refine lv_lstore (lv' := [(4, .long y5), (8, .long v9), (6, .long y5), (0, .long p0), (2, .long p1)]) hx hb dX10_divisor_25 hl (by decide) rfl (fun ls hl => ?_)
        refine lv_lload hx hb dX10_divisor_27 (lv_at hl 1 rfl) ?_
        refine lv_lstore (lv' := [(6, .long v9), (4, .long y5), (8, .long v9), (0, .long p0), (2, .long p1)]) hx hb dX10_divisor_29 hl (by decide) rfl (fun ls hl => ?_)
        refine lv_goto (tgt := 9) hx hb dX10_divisor_31 (by decide) ?_
        exact ih6 y5 v9 (by omega) (by have q9 := lrem_lt (by omega) ev9; omega) _ _ hP hD hS ls (lv_sub hl [0, 1, 3, 4] rfl)
  exact lp2 9223372036854775809 v1 p1 (by omega) (by have q9 := fb_rngL p1; omega) _ _ hP hD hS ls (lv_sub hl [0, 1, 2, 3] rfl)
set_option maxHeartbeats 4000000 in
set_option maxRecDepth 100000 in
theorem f_X10_part (l : Launch) (G : va_G) (cI cJ cZ cB cQ : ClassId) (sz : Nat) (p0 : Int64) (a0 : Int) (p1 : Int64) (a1 : Int) (p2 : Int32) (a2 : Int) (hp0 : p0.toInt = a0) (hp1 : p1.toInt = a1) (hp2 : p2.toInt = a2) (hn0 : ¬ a1 = 0) : CL l yX10_part (wl_ yX10_part cX10_part 5 (some .long)) ({ frames := 2, cells := 0, slots := 0, locals := 48 } : Room) G (TY cI cJ cZ cB cQ) [.long p0, .long p1, .int p2] [] sz (fun (r : Int64) (u : Unit) => True) (fun _ : Unit => []) 0 0 := by
  refine CL.go (cc := cX10_part) (maxL := 5) (ret := (some .long)) (by decide) rfl (Nat.le_of_ble_eq_true rfl) ?_
  intro p e s m below meth c A ls Q hBd hret
  obtain ⟨hx, hb, hr, hml, hts, hown, hlk, hnm, hP, hK, hD, hA, hZ, hl⟩ := hBd
  have hown : s.vm.findClass RX10 = some m.cls := hown
  have hl : lv_has ls 5 [(0, .long p0), (2, .long p1), (4, .int p2)] := hl
  have hS : va_S A s.heap s.heap [] := va_S.rf
  refine lv_iload hx hb dX10_part_0 (lv_at hl 2 rfl) ?_
  refine lv_if_ne (tgt := 9) hx hb dX10_part_2 (by decide) (fun c1 => ?_) (fun c1 => ?_)
  · have c1 := i_ne hp2 ki_0 c1
    refine lv_lload_n hx hb dX10_part_9 rfl (lv_at hl 1 rfl) ?_
    refine lv_lload_n hx hb dX10_part_10 rfl (lv_at hl 0 rfl) ?_
    refine lv_lload_n hx hb dX10_part_11 rfl (lv_at hl 1 rfl) ?_
    refine k_l (wc := []) (wr := []) hP hD hS hA [] [] rfl rfl rfl (by decide) (va_runS (As := [.long p0, .long p1]) (rest := [.long p1]) ⟨hx, hb, hml, hown, hts⟩ (f_X10_divisor l G cI cJ cZ cB cQ _ p0 a0 p1 a1 hp0 hp1 (by omega)) (va_cwS 2 hts (gS w_1891 w_1892 w_11 w_1893) rfl rfl rfl hd_X10_divisor ⟨Nat.le_of_ble_eq_true rfl, Nat.le_of_ble_eq_true rfl⟩) (mS hK hZ hP hD [] rfl rfl [.long p0, .long p1]) rfl rfl hl.1 rfl (lv_room (Nat.le_of_ble_eq_true rfl)) dX10_part_12 ⟨Nat.le_of_ble_eq_true rfl, Nat.le_of_ble_eq_true rfl⟩) (fun r2 u3 H locs hw4 hP hD hS => ?_)
    try dsimp only at hw4
    have hP : va_P G vwCl [] H := hP
    have hD : va_D A [] := hD
    have w5 : ¬ r2.toInt = 0 := hw4
    refine lv_ldiv hx hb dX10_part_15 (fun q => absurd (l_eq rfl kl_0 q) (by omega)) ?_
    refine lv_topl (fun v6 ev6 => ?_)
    exact hret _ _ _ _ v6 () hP hD hS dX10_part_16 trivial
  · have c1 := i_eq hp2 ki_0 c1
    refine lv_lload_n hx hb dX10_part_5 rfl (lv_at hl 0 rfl) ?_
    refine lv_goto (tgt := 10) hx hb dX10_part_6 (by decide) ?_
    refine lv_lload_n hx hb dX10_part_10 rfl (lv_at hl 0 rfl) ?_
    refine lv_lload_n hx hb dX10_part_11 rfl (lv_at hl 1 rfl) ?_
    refine k_l (wc := []) (wr := []) hP hD hS hA [] [] rfl rfl rfl (by decide) (va_runS (As := [.long p0, .long p1]) (rest := [.long p0]) ⟨hx, hb, hml, hown, hts⟩ (f_X10_divisor l G cI cJ cZ cB cQ _ p0 a0 p1 a1 hp0 hp1 (by omega)) (va_cwS 2 hts (gS w_1891 w_1892 w_11 w_1893) rfl rfl rfl hd_X10_divisor ⟨Nat.le_of_ble_eq_true rfl, Nat.le_of_ble_eq_true rfl⟩) (mS hK hZ hP hD [] rfl rfl [.long p0, .long p1]) rfl rfl hl.1 rfl (lv_room (Nat.le_of_ble_eq_true rfl)) dX10_part_12 ⟨Nat.le_of_ble_eq_true rfl, Nat.le_of_ble_eq_true rfl⟩) (fun r7 u8 H locs hw9 hP hD hS => ?_)
    try dsimp only at hw9
    have hP : va_P G vwCl [] H := hP
    have hD : va_D A [] := hD
    have w10 : ¬ r7.toInt = 0 := hw9
    refine lv_ldiv hx hb dX10_part_15 (fun q => absurd (l_eq rfl kl_0 q) (by omega)) ?_
    refine lv_topl (fun v11 ev11 => ?_)
    exact hret _ _ _ _ v11 () hP hD hS dX10_part_16 trivial
set_option maxHeartbeats 4000000 in
set_option maxRecDepth 100000 in
theorem f_X10_isColony (l : Launch) (G : va_G) (cI cJ cZ cB cQ : ClassId) (sz : Nat) (h0 : Nat) (b : Nat → Nat) (o_thrown : Int32) (o_taped : Int32) (o_size : Int32) (o_at : Int32) (o_from : Int32) (o_token : Int32) (o_value : Int32) (o_faultKind : Int32) (o_faultPlace : Int32) (o_lawNow : Int32) (o_walkSet : Int32) (o_oneWidow : Int32) (o_oneTurn : Int32) (o_askWorst : Int32) (o_mayWalk : Int32) (o_oftenAll : Int64) (o_oftenRoad : Int64) (o_oftenPegs : Int64) (o_f1 : Nat → Int32) (hl_o_taped : 0 ≤ o_taped.toInt) (hh_o_taped : o_taped.toInt ≤ 900) (hl_o_size : 0 ≤ o_size.toInt) (hh_o_size : o_size.toInt ≤ 900) (hl_o_at : 0 ≤ o_at.toInt) (hh_o_at : o_at.toInt ≤ 900) (hl_o_from : 0 ≤ o_from.toInt) (hh_o_from : o_from.toInt ≤ 900) (hl_o_oneTurn : 0 ≤ o_oneTurn.toInt) (hh_o_oneTurn : o_oneTurn.toInt ≤ 4) (ha_o_f1 : WI o_f1) : CI l yX10_isColony (wl_ yX10_isColony cX10_isColony 1 (some .boolean)) ({ frames := 0, cells := 0, slots := 0, locals := 0 } : Room) G (TY cI cJ cZ cB cQ) [.ref h0] [(h0, oX10 b o_thrown o_taped o_size o_at o_from o_token o_value o_faultKind o_faultPlace o_lawNow o_walkSet o_oneWidow o_oneTurn o_askWorst o_mayWalk o_oftenAll o_oftenRoad o_oftenPegs), (b 1, .inl (cI, 149, .inl o_f1))] sz (fun (r : Int32) (u : Unit) => 0 ≤ r.toInt ∧ r.toInt ≤ 1) (fun _ : Unit => [(h0, oX10 b o_thrown o_taped o_size o_at o_from o_token o_value o_faultKind o_faultPlace o_lawNow o_walkSet o_oneWidow o_oneTurn o_askWorst o_mayWalk o_oftenAll o_oftenRoad o_oftenPegs), (b 1, .inl (cI, 149, .inl o_f1))]) 0 0 := by
  refine CI.goz (cc := cX10_isColony) (maxL := 1) (ret := (some .boolean)) (by decide) rfl (Nat.le_of_ble_eq_true rfl) ?_
  intro p e s m below meth c A ls Q hBd hret
  obtain ⟨hx, hb, hr, hml, hts, hown, hlk, hnm, hP, hK, hD, hA, hZ, hl⟩ := hBd
  have hown : s.vm.findClass RX10 = some m.cls := hown
  have hl : lv_has ls 1 [(0, .ref h0)] := hl
  have hS : va_S A s.heap s.heap [] := va_S.rf
  refine lv_aload_n hx hb dX10_isColony_0 rfl (lv_at hl 0 rfl) ?_
  refine va_get (D := G) (ci := 10) (v := .ref (b 1)) (C := RX10) (T := TX10) (N := 46) hx hb hts iG_X10 hown hK hP 0 rfl rfl 1 (by decide) (hts _ w_1193) (fun _ h9 => h9) rfl dX10_isColony_1 ?_
  refine lv_bipush (v := 9) hx hb dX10_isColony_4 (by decide) ?_
  refine va_iald hx hb hK hP 1 0 rfl rfl (ix_in ki_9 (by omega) (by omega)) dX10_isColony_6 ?_
  refine lv_topi (fun v1 ev1 => ?_)
  have tv1 : v1.toInt = (o_f1 9).toInt := by rw [ev1]; rfl
  obtain ⟨ia2, ib3⟩ := WB_9 ha_o_f1.1
  refine lv_if_le (tgt := 14) hx hb dX10_isColony_7 (by decide) (fun c4 => ?_) (fun c4 => ?_)
  · have c4 := i_le tv1 ki_0 c4
    refine lv_iconst (v := 0) hx hb dX10_isColony_14 (by decide) ?_
    exact hret _ _ _ _ 0 () hP hD hS dX10_isColony_15 rfl (show 0 ≤ (0 : Int32).toInt ∧ (0 : Int32).toInt ≤ 1 from ⟨(by rw [ki_0]; decide), (by rw [ki_0]; decide)⟩)
  · have c4 := i_nle tv1 ki_0 c4
    refine lv_iconst (v := 1) hx hb dX10_isColony_10 (by decide) ?_
    refine lv_goto (tgt := 15) hx hb dX10_isColony_11 (by decide) ?_
    exact hret _ _ _ _ 1 () hP hD hS dX10_isColony_15 rfl (show 0 ≤ (1 : Int32).toInt ∧ (1 : Int32).toInt ≤ 1 from ⟨(by rw [ki_1]; decide), (by rw [ki_1]; decide)⟩)
set_option maxHeartbeats 4000000 in
set_option maxRecDepth 100000 in
theorem f_X10_years (l : Launch) (G : va_G) (cI cJ cZ cB cQ : ClassId) (sz : Nat) (h0 : Nat) (b : Nat → Nat) (o_thrown : Int32) (o_taped : Int32) (o_size : Int32) (o_at : Int32) (o_from : Int32) (o_token : Int32) (o_value : Int32) (o_faultKind : Int32) (o_faultPlace : Int32) (o_lawNow : Int32) (o_walkSet : Int32) (o_oneWidow : Int32) (o_oneTurn : Int32) (o_askWorst : Int32) (o_mayWalk : Int32) (o_oftenAll : Int64) (o_oftenRoad : Int64) (o_oftenPegs : Int64) (o_f1 : Nat → Int32) (hl_o_taped : 0 ≤ o_taped.toInt) (hh_o_taped : o_taped.toInt ≤ 900) (hl_o_size : 0 ≤ o_size.toInt) (hh_o_size : o_size.toInt ≤ 900) (hl_o_at : 0 ≤ o_at.toInt) (hh_o_at : o_at.toInt ≤ 900) (hl_o_from : 0 ≤ o_from.toInt) (hh_o_from : o_from.toInt ≤ 900) (hl_o_oneTurn : 0 ≤ o_oneTurn.toInt) (hh_o_oneTurn : o_oneTurn.toInt ≤ 4) (ha_o_f1 : WI o_f1) : CI l yX10_years (wl_ yX10_years cX10_years 1 (some .int)) ({ frames := 0, cells := 0, slots := 0, locals := 0 } : Room) G (TY cI cJ cZ cB cQ) [.ref h0] [(h0, oX10 b o_thrown o_taped o_size o_at o_from o_token o_value o_faultKind o_faultPlace o_lawNow o_walkSet o_oneWidow o_oneTurn o_askWorst o_mayWalk o_oftenAll o_oftenRoad o_oftenPegs), (b 1, .inl (cI, 149, .inl o_f1))] sz (fun (r : Int32) (u : Unit) => 0 ≤ r.toInt ∧ r.toInt ≤ 12 ∧ r.toInt = (o_f1 0).toInt) (fun _ : Unit => [(h0, oX10 b o_thrown o_taped o_size o_at o_from o_token o_value o_faultKind o_faultPlace o_lawNow o_walkSet o_oneWidow o_oneTurn o_askWorst o_mayWalk o_oftenAll o_oftenRoad o_oftenPegs), (b 1, .inl (cI, 149, .inl o_f1))]) 0 0 := by
  refine CI.go (cc := cX10_years) (maxL := 1) (ret := (some .int)) (by decide) rfl (Nat.le_of_ble_eq_true rfl) ?_
  intro p e s m below meth c A ls Q hBd hret
  obtain ⟨hx, hb, hr, hml, hts, hown, hlk, hnm, hP, hK, hD, hA, hZ, hl⟩ := hBd
  have hown : s.vm.findClass RX10 = some m.cls := hown
  have hl : lv_has ls 1 [(0, .ref h0)] := hl
  have hS : va_S A s.heap s.heap [] := va_S.rf
  refine lv_aload_n hx hb dX10_years_0 rfl (lv_at hl 0 rfl) ?_
  refine va_get (D := G) (ci := 10) (v := .ref (b 1)) (C := RX10) (T := TX10) (N := 46) hx hb hts iG_X10 hown hK hP 0 rfl rfl 1 (by decide) (hts _ w_1193) (fun _ h9 => h9) rfl dX10_years_1 ?_
  refine lv_iconst (v := 0) hx hb dX10_years_4 (by decide) ?_
  refine va_iald hx hb hK hP 1 0 rfl rfl (ix_in ki_0 (by omega) (by omega)) dX10_years_5 ?_
  refine lv_topi (fun v1 ev1 => ?_)
  have tv1 : v1.toInt = (o_f1 0).toInt := by rw [ev1]; rfl
  obtain ⟨ia2, ib3⟩ := WB_0 ha_o_f1.1
  exact hret _ _ _ _ v1 () hP hD hS dX10_years_6 (show 0 ≤ v1.toInt ∧ v1.toInt ≤ 12 ∧ v1.toInt = (o_f1 0).toInt from ⟨(by omega), (by omega), tv1⟩)
set_option maxHeartbeats 4000000 in
set_option maxRecDepth 100000 in
theorem f_X10_widows (l : Launch) (G : va_G) (cI cJ cZ cB cQ : ClassId) (sz : Nat) (h0 : Nat) (b : Nat → Nat) (o_thrown : Int32) (o_taped : Int32) (o_size : Int32) (o_at : Int32) (o_from : Int32) (o_token : Int32) (o_value : Int32) (o_faultKind : Int32) (o_faultPlace : Int32) (o_lawNow : Int32) (o_walkSet : Int32) (o_oneWidow : Int32) (o_oneTurn : Int32) (o_askWorst : Int32) (o_mayWalk : Int32) (o_oftenAll : Int64) (o_oftenRoad : Int64) (o_oftenPegs : Int64) (o_f1 : Nat → Int32) (hl_o_taped : 0 ≤ o_taped.toInt) (hh_o_taped : o_taped.toInt ≤ 900) (hl_o_size : 0 ≤ o_size.toInt) (hh_o_size : o_size.toInt ≤ 900) (hl_o_at : 0 ≤ o_at.toInt) (hh_o_at : o_at.toInt ≤ 900) (hl_o_from : 0 ≤ o_from.toInt) (hh_o_from : o_from.toInt ≤ 900) (hl_o_oneTurn : 0 ≤ o_oneTurn.toInt) (hh_o_oneTurn : o_oneTurn.toInt ≤ 4) (ha_o_f1 : WI o_f1) : CI l yX10_widows (wl_ yX10_widows cX10_widows 1 (some .int)) ({ frames := 0, cells := 0, slots := 0, locals := 0 } : Room) G (TY cI cJ cZ cB cQ) [.ref h0] [(h0, oX10 b o_thrown o_taped o_size o_at o_from o_token o_value o_faultKind o_faultPlace o_lawNow o_walkSet o_oneWidow o_oneTurn o_askWorst o_mayWalk o_oftenAll o_oftenRoad o_oftenPegs), (b 1, .inl (cI, 149, .inl o_f1))] sz (fun (r : Int32) (u : Unit) => 0 ≤ r.toInt ∧ r.toInt ≤ 7 ∧ r.toInt = (o_f1 7).toInt) (fun _ : Unit => [(h0, oX10 b o_thrown o_taped o_size o_at o_from o_token o_value o_faultKind o_faultPlace o_lawNow o_walkSet o_oneWidow o_oneTurn o_askWorst o_mayWalk o_oftenAll o_oftenRoad o_oftenPegs), (b 1, .inl (cI, 149, .inl o_f1))]) 0 0 := by
  refine CI.go (cc := cX10_widows) (maxL := 1) (ret := (some .int)) (by decide) rfl (Nat.le_of_ble_eq_true rfl) ?_
  intro p e s m below meth c A ls Q hBd hret
  obtain ⟨hx, hb, hr, hml, hts, hown, hlk, hnm, hP, hK, hD, hA, hZ, hl⟩ := hBd
  have hown : s.vm.findClass RX10 = some m.cls := hown
  have hl : lv_has ls 1 [(0, .ref h0)] := hl
  have hS : va_S A s.heap s.heap [] := va_S.rf
  refine lv_aload_n hx hb dX10_widows_0 rfl (lv_at hl 0 rfl) ?_
  refine va_get (D := G) (ci := 10) (v := .ref (b 1)) (C := RX10) (T := TX10) (N := 46) hx hb hts iG_X10 hown hK hP 0 rfl rfl 1 (by decide) (hts _ w_1193) (fun _ h9 => h9) rfl dX10_widows_1 ?_
  refine lv_bipush (v := 7) hx hb dX10_widows_4 (by decide) ?_
  refine va_iald hx hb hK hP 1 0 rfl rfl (ix_in ki_7 (by omega) (by omega)) dX10_widows_6 ?_
  refine lv_topi (fun v1 ev1 => ?_)
  have tv1 : v1.toInt = (o_f1 7).toInt := by rw [ev1]; rfl
  obtain ⟨ia2, ib3⟩ := WB_7 ha_o_f1.1
  exact hret _ _ _ _ v1 () hP hD hS dX10_widows_7 (show 0 ≤ v1.toInt ∧ v1.toInt ≤ 7 ∧ v1.toInt = (o_f1 7).toInt from ⟨(by omega), (by omega), tv1⟩)
set_option maxHeartbeats 4000000 in
set_option maxRecDepth 100000 in
theorem f_X10_houses (l : Launch) (G : va_G) (cI cJ cZ cB cQ : ClassId) (sz : Nat) (h0 : Nat) (b : Nat → Nat) (o_thrown : Int32) (o_taped : Int32) (o_size : Int32) (o_at : Int32) (o_from : Int32) (o_token : Int32) (o_value : Int32) (o_faultKind : Int32) (o_faultPlace : Int32) (o_lawNow : Int32) (o_walkSet : Int32) (o_oneWidow : Int32) (o_oneTurn : Int32) (o_askWorst : Int32) (o_mayWalk : Int32) (o_oftenAll : Int64) (o_oftenRoad : Int64) (o_oftenPegs : Int64) (o_f1 : Nat → Int32) (hl_o_taped : 0 ≤ o_taped.toInt) (hh_o_taped : o_taped.toInt ≤ 900) (hl_o_size : 0 ≤ o_size.toInt) (hh_o_size : o_size.toInt ≤ 900) (hl_o_at : 0 ≤ o_at.toInt) (hh_o_at : o_at.toInt ≤ 900) (hl_o_from : 0 ≤ o_from.toInt) (hh_o_from : o_from.toInt ≤ 900) (hl_o_oneTurn : 0 ≤ o_oneTurn.toInt) (hh_o_oneTurn : o_oneTurn.toInt ≤ 4) (ha_o_f1 : WI o_f1) : CI l yX10_houses (wl_ yX10_houses cX10_houses 1 (some .int)) ({ frames := 0, cells := 0, slots := 0, locals := 0 } : Room) G (TY cI cJ cZ cB cQ) [.ref h0] [(h0, oX10 b o_thrown o_taped o_size o_at o_from o_token o_value o_faultKind o_faultPlace o_lawNow o_walkSet o_oneWidow o_oneTurn o_askWorst o_mayWalk o_oftenAll o_oftenRoad o_oftenPegs), (b 1, .inl (cI, 149, .inl o_f1))] sz (fun (r : Int32) (u : Unit) => 0 ≤ r.toInt ∧ r.toInt ≤ 6 ∧ r.toInt = (o_f1 6).toInt) (fun _ : Unit => [(h0, oX10 b o_thrown o_taped o_size o_at o_from o_token o_value o_faultKind o_faultPlace o_lawNow o_walkSet o_oneWidow o_oneTurn o_askWorst o_mayWalk o_oftenAll o_oftenRoad o_oftenPegs), (b 1, .inl (cI, 149, .inl o_f1))]) 0 0 := by
  refine CI.go (cc := cX10_houses) (maxL := 1) (ret := (some .int)) (by decide) rfl (Nat.le_of_ble_eq_true rfl) ?_
  intro p e s m below meth c A ls Q hBd hret
  obtain ⟨hx, hb, hr, hml, hts, hown, hlk, hnm, hP, hK, hD, hA, hZ, hl⟩ := hBd
  have hown : s.vm.findClass RX10 = some m.cls := hown
  have hl : lv_has ls 1 [(0, .ref h0)] := hl
  have hS : va_S A s.heap s.heap [] := va_S.rf
  refine lv_aload_n hx hb dX10_houses_0 rfl (lv_at hl 0 rfl) ?_
  refine va_get (D := G) (ci := 10) (v := .ref (b 1)) (C := RX10) (T := TX10) (N := 46) hx hb hts iG_X10 hown hK hP 0 rfl rfl 1 (by decide) (hts _ w_1193) (fun _ h9 => h9) rfl dX10_houses_1 ?_
  refine lv_bipush (v := 6) hx hb dX10_houses_4 (by decide) ?_
  refine va_iald hx hb hK hP 1 0 rfl rfl (ix_in ki_6 (by omega) (by omega)) dX10_houses_6 ?_
  refine lv_topi (fun v1 ev1 => ?_)
  have tv1 : v1.toInt = (o_f1 6).toInt := by rw [ev1]; rfl
  obtain ⟨ia2, ib3⟩ := WB_6 ha_o_f1.1
  exact hret _ _ _ _ v1 () hP hD hS dX10_houses_7 (show 0 ≤ v1.toInt ∧ v1.toInt ≤ 6 ∧ v1.toInt = (o_f1 6).toInt from ⟨(by omega), (by omega), tv1⟩)
set_option maxHeartbeats 4000000 in
set_option maxRecDepth 100000 in
theorem f_X10_allWidows (l : Launch) (G : va_G) (cI cJ cZ cB cQ : ClassId) (sz : Nat) (h0 : Nat) (b : Nat → Nat) (o_thrown : Int32) (o_taped : Int32) (o_size : Int32) (o_at : Int32) (o_from : Int32) (o_token : Int32) (o_value : Int32) (o_faultKind : Int32) (o_faultPlace : Int32) (o_lawNow : Int32) (o_walkSet : Int32) (o_oneWidow : Int32) (o_oneTurn : Int32) (o_askWorst : Int32) (o_mayWalk : Int32) (o_oftenAll : Int64) (o_oftenRoad : Int64) (o_oftenPegs : Int64) (o_f1 : Nat → Int32) (hl_o_taped : 0 ≤ o_taped.toInt) (hh_o_taped : o_taped.toInt ≤ 900) (hl_o_size : 0 ≤ o_size.toInt) (hh_o_size : o_size.toInt ≤ 900) (hl_o_at : 0 ≤ o_at.toInt) (hh_o_at : o_at.toInt ≤ 900) (hl_o_from : 0 ≤ o_from.toInt) (hh_o_from : o_from.toInt ≤ 900) (hl_o_oneTurn : 0 ≤ o_oneTurn.toInt) (hh_o_oneTurn : o_oneTurn.toInt ≤ 4) (ha_o_f1 : WI o_f1) : CI l yX10_allWidows (wl_ yX10_allWidows cX10_allWidows 1 (some .int)) ({ frames := 1, cells := 0, slots := 0, locals := 20 } : Room) G (TY cI cJ cZ cB cQ) [.ref h0] [(h0, oX10 b o_thrown o_taped o_size o_at o_from o_token o_value o_faultKind o_faultPlace o_lawNow o_walkSet o_oneWidow o_oneTurn o_askWorst o_mayWalk o_oftenAll o_oftenRoad o_oftenPegs), (b 1, .inl (cI, 149, .inl o_f1))] sz (fun (r : Int32) (u : Unit) => 0 ≤ r.toInt ∧ r.toInt ≤ 127) (fun _ : Unit => [(h0, oX10 b o_thrown o_taped o_size o_at o_from o_token o_value o_faultKind o_faultPlace o_lawNow o_walkSet o_oneWidow o_oneTurn o_askWorst o_mayWalk o_oftenAll o_oftenRoad o_oftenPegs), (b 1, .inl (cI, 149, .inl o_f1))]) 0 0 := by
  refine CI.go (cc := cX10_allWidows) (maxL := 1) (ret := (some .int)) (by decide) rfl (Nat.le_of_ble_eq_true rfl) ?_
  intro p e s m below meth c A ls Q hBd hret
  obtain ⟨hx, hb, hr, hml, hts, hown, hlk, hnm, hP, hK, hD, hA, hZ, hl⟩ := hBd
  have hown : s.vm.findClass RX10 = some m.cls := hown
  have hl : lv_has ls 1 [(0, .ref h0)] := hl
  have hS : va_S A s.heap s.heap [] := va_S.rf
  refine lv_iconst (v := 1) hx hb dX10_allWidows_0 (by decide) ?_
  refine lv_aload_n hx hb dX10_allWidows_1 rfl (lv_at hl 0 rfl) ?_
  refine k_i (wc := [(h0, oX10 b o_thrown o_taped o_size o_at o_from o_token o_value o_faultKind o_faultPlace o_lawNow o_walkSet o_oneWidow o_oneTurn o_askWorst o_mayWalk o_oftenAll o_oftenRoad o_oftenPegs), (b 1, .inl (cI, 149, .inl o_f1))]) (wr := []) hP hD hS hA [0, 1] [] rfl rfl rfl (by decide) (va_runV (As := []) (rest := [.int 1]) ⟨hx, hb, hml, hown, hts⟩ (f_X10_widows l G cI cJ cZ cB cQ _ h0 b o_thrown o_taped o_size o_at o_from o_token o_value o_faultKind o_faultPlace o_lawNow o_walkSet o_oneWidow o_oneTurn o_askWorst o_mayWalk o_oftenAll o_oftenRoad o_oftenPegs o_f1 hl_o_taped hh_o_taped hl_o_size hh_o_size hl_o_at hh_o_at hl_o_from hh_o_from hl_o_oneTurn hh_o_oneTurn ha_o_f1) (cwV 0 hts (gV w_1464 w_1466 wp_102 w_11 w_1467) rfl rfl rfl ⟨rfl, hd_X10_widows⟩ ⟨Nat.le_of_ble_eq_true rfl, Nat.le_of_ble_eq_true rfl⟩) (mV hK hZ hP hD [0, 1] rfl rfl [] 0 10 rfl rfl) rfl rfl hl.1 rfl (lv_room (Nat.le_of_ble_eq_true rfl)) dX10_allWidows_2 ⟨Nat.le_of_ble_eq_true rfl, Nat.le_of_ble_eq_true rfl⟩) (fun r1 u2 H locs hw3 hP hD hS => ?_)
  try dsimp only at hw3
  have hP : va_P G vwCl [(h0, oX10 b o_thrown o_taped o_size o_at o_from o_token o_value o_faultKind o_faultPlace o_lawNow o_walkSet o_oneWidow o_oneTurn o_askWorst o_mayWalk o_oftenAll o_oftenRoad o_oftenPegs), (b 1, .inl (cI, 149, .inl o_f1))] H := hP
  have hD : va_D A [(h0, oX10 b o_thrown o_taped o_size o_at o_from o_token o_value o_faultKind o_faultPlace o_lawNow o_walkSet o_oneWidow o_oneTurn o_askWorst o_mayWalk o_oftenAll o_oftenRoad o_oftenPegs), (b 1, .inl (cI, 149, .inl o_f1))] := hD
  obtain ⟨w4, w5, w6⟩ : 0 ≤ r1.toInt ∧ r1.toInt ≤ 7 ∧ r1.toInt = (o_f1 7).toInt := hw3
  refine lv_ishl hx hb dX10_allWidows_5 ?_
  refine lv_topi (fun v7 ev7 => ?_)
  obtain ⟨sa8, sb9⟩ : 1 ≤ v7.toInt ∧ v7.toInt ≤ 128 := shl1 7 w6 (by omega) (by omega) (by decide) ev7
  refine lv_iconst (v := 1) hx hb dX10_allWidows_6 (by decide) ?_
  refine lv_isub hx hb dX10_allWidows_7 ?_
  refine lv_topi (fun v10 ev10 => ?_)
  have tv10 : v10.toInt = v7.toInt - 1 := ti_sub rfl ki_1 ev10 (by omega) (by omega)
  exact hret _ _ _ _ v10 () hP hD hS dX10_allWidows_8 (show 0 ≤ v10.toInt ∧ v10.toInt ≤ 127 from ⟨(by omega), (by omega)⟩)
set_option maxHeartbeats 4000000 in
set_option maxRecDepth 100000 in
theorem f_X10_isYear (l : Launch) (G : va_G) (cI cJ cZ cB cQ : ClassId) (sz : Nat) (h0 : Nat) (p0 : Int64) (a0 : Int) (b : Nat → Nat) (o_thrown : Int32) (o_taped : Int32) (o_size : Int32) (o_at : Int32) (o_from : Int32) (o_token : Int32) (o_value : Int32) (o_faultKind : Int32) (o_faultPlace : Int32) (o_lawNow : Int32) (o_walkSet : Int32) (o_oneWidow : Int32) (o_oneTurn : Int32) (o_askWorst : Int32) (o_mayWalk : Int32) (o_oftenAll : Int64) (o_oftenRoad : Int64) (o_oftenPegs : Int64) (o_f1 : Nat → Int32) (hp0 : p0.toInt = a0) (hl_o_taped : 0 ≤ o_taped.toInt) (hh_o_taped : o_taped.toInt ≤ 900) (hl_o_size : 0 ≤ o_size.toInt) (hh_o_size : o_size.toInt ≤ 900) (hl_o_at : 0 ≤ o_at.toInt) (hh_o_at : o_at.toInt ≤ 900) (hl_o_from : 0 ≤ o_from.toInt) (hh_o_from : o_from.toInt ≤ 900) (hl_o_oneTurn : 0 ≤ o_oneTurn.toInt) (hh_o_oneTurn : o_oneTurn.toInt ≤ 4) (ha_o_f1 : WI o_f1) : CI l yX10_isYear (wl_ yX10_isYear cX10_isYear 3 (some .boolean)) ({ frames := 1, cells := 0, slots := 0, locals := 25 } : Room) G (TY cI cJ cZ cB cQ) [.ref h0, .long p0] [(h0, oX10 b o_thrown o_taped o_size o_at o_from o_token o_value o_faultKind o_faultPlace o_lawNow o_walkSet o_oneWidow o_oneTurn o_askWorst o_mayWalk o_oftenAll o_oftenRoad o_oftenPegs), (b 1, .inl (cI, 149, .inl o_f1))] sz (fun (r : Int32) (u : Unit) => ((r = 1 ∧ 0 ≤ a0 ∧ a0 ≤ (o_f1 0).toInt) ∨ (r = 0))) (fun _ : Unit => [(h0, oX10 b o_thrown o_taped o_size o_at o_from o_token o_value o_faultKind o_faultPlace o_lawNow o_walkSet o_oneWidow o_oneTurn o_askWorst o_mayWalk o_oftenAll o_oftenRoad o_oftenPegs), (b 1, .inl (cI, 149, .inl o_f1))]) 0 0 := by
  refine CI.goz (cc := cX10_isYear) (maxL := 3) (ret := (some .boolean)) (by decide) rfl (Nat.le_of_ble_eq_true rfl) ?_
  intro p e s m below meth c A ls Q hBd hret
  obtain ⟨hx, hb, hr, hml, hts, hown, hlk, hnm, hP, hK, hD, hA, hZ, hl⟩ := hBd
  have hown : s.vm.findClass RX10 = some m.cls := hown
  have hl : lv_has ls 3 [(0, .ref h0), (1, .long p0)] := hl
  have hS : va_S A s.heap s.heap [] := va_S.rf
  refine lv_aload_n hx hb dX10_isYear_0 rfl (lv_at hl 0 rfl) ?_
  refine k_i (wc := [(h0, oX10 b o_thrown o_taped o_size o_at o_from o_token o_value o_faultKind o_faultPlace o_lawNow o_walkSet o_oneWidow o_oneTurn o_askWorst o_mayWalk o_oftenAll o_oftenRoad o_oftenPegs), (b 1, .inl (cI, 149, .inl o_f1))]) (wr := []) hP hD hS hA [0, 1] [] rfl rfl rfl (by decide) (va_runV (As := []) (rest := []) ⟨hx, hb, hml, hown, hts⟩ (f_X10_isColony l G cI cJ cZ cB cQ _ h0 b o_thrown o_taped o_size o_at o_from o_token o_value o_faultKind o_faultPlace o_lawNow o_walkSet o_oneWidow o_oneTurn o_askWorst o_mayWalk o_oftenAll o_oftenRoad o_oftenPegs o_f1 hl_o_taped hh_o_taped hl_o_size hh_o_size hl_o_at hh_o_at hl_o_from hh_o_from hl_o_oneTurn hh_o_oneTurn ha_o_f1) (cwV 0 hts (gV w_1554 w_1556 wp_120 w_11 w_1557) rfl rfl rfl ⟨rfl, hd_X10_isColony⟩ ⟨Nat.le_of_ble_eq_true rfl, Nat.le_of_ble_eq_true rfl⟩) (mV hK hZ hP hD [0, 1] rfl rfl [] 0 10 rfl rfl) rfl rfl hl.1 rfl (lv_room (Nat.le_of_ble_eq_true rfl)) dX10_isYear_1 ⟨Nat.le_of_ble_eq_true rfl, Nat.le_of_ble_eq_true rfl⟩) (fun r1 u2 H locs hw3 hP hD hS => ?_)
  try dsimp only at hw3
  have hP : va_P G vwCl [(h0, oX10 b o_thrown o_taped o_size o_at o_from o_token o_value o_faultKind o_faultPlace o_lawNow o_walkSet o_oneWidow o_oneTurn o_askWorst o_mayWalk o_oftenAll o_oftenRoad o_oftenPegs), (b 1, .inl (cI, 149, .inl o_f1))] H := hP
  have hD : va_D A [(h0, oX10 b o_thrown o_taped o_size o_at o_from o_token o_value o_faultKind o_faultPlace o_lawNow o_walkSet o_oneWidow o_oneTurn o_askWorst o_mayWalk o_oftenAll o_oftenRoad o_oftenPegs), (b 1, .inl (cI, 149, .inl o_f1))] := hD
  obtain ⟨w4, w5⟩ : 0 ≤ r1.toInt ∧ r1.toInt ≤ 1 := hw3
  refine lv_if_eq (tgt := 24) hx hb dX10_isYear_4 (by decide) (fun c6 => ?_) (fun c6 => ?_)
  · have c6 := i_eq rfl ki_0 c6
    refine lv_iconst (v := 0) hx hb dX10_isYear_24 (by decide) ?_
    exact hret _ _ _ _ 0 () hP hD hS dX10_isYear_25 rfl (show (((0 : Int32) = 1 ∧ 0 ≤ a0 ∧ a0 ≤ (o_f1 0).toInt) ∨ ((0 : Int32) = 0)) from (Or.inr rfl))
  · have c6 := i_ne rfl ki_0 c6
    refine lv_lload_n hx hb dX10_isYear_7 rfl (lv_at hl 1 rfl) ?_
    refine lv_lconst (v := 0) hx hb dX10_isYear_8 (by decide) ?_
    refine lv_aload_n hx hb dX10_isYear_9 rfl (lv_at hl 0 rfl) ?_
    refine k_i (wc := [(h0, oX10 b o_thrown o_taped o_size o_at o_from o_token o_value o_faultKind o_faultPlace o_lawNow o_walkSet o_oneWidow o_oneTurn o_askWorst o_mayWalk o_oftenAll o_oftenRoad o_oftenPegs), (b 1, .inl (cI, 149, .inl o_f1))]) (wr := []) hP hD hS hA [0, 1] [] rfl rfl rfl (by decide) (va_runV (As := []) (rest := [.long 0, .long p0]) ⟨hx, hb, hml, hown, hts⟩ (f_X10_years l G cI cJ cZ cB cQ _ h0 b o_thrown o_taped o_size o_at o_from o_token o_value o_faultKind o_faultPlace o_lawNow o_walkSet o_oneWidow o_oneTurn o_askWorst o_mayWalk o_oftenAll o_oftenRoad o_oftenPegs o_f1 hl_o_taped hh_o_taped hl_o_size hh_o_size hl_o_at hh_o_at hl_o_from hh_o_from hl_o_oneTurn hh_o_oneTurn ha_o_f1) (cwV 0 hts (gV w_1501 w_1503 wp_109 w_11 w_1504) rfl rfl rfl ⟨rfl, hd_X10_years⟩ ⟨Nat.le_of_ble_eq_true rfl, Nat.le_of_ble_eq_true rfl⟩) (mV hK hZ hP hD [0, 1] rfl rfl [] 0 10 rfl rfl) rfl rfl hl.1 rfl (lv_room (Nat.le_of_ble_eq_true rfl)) dX10_isYear_10 ⟨Nat.le_of_ble_eq_true rfl, Nat.le_of_ble_eq_true rfl⟩) (fun r7 u8 H locs hw9 hP hD hS => ?_)
    try dsimp only at hw9
    have hP : va_P G vwCl [(h0, oX10 b o_thrown o_taped o_size o_at o_from o_token o_value o_faultKind o_faultPlace o_lawNow o_walkSet o_oneWidow o_oneTurn o_askWorst o_mayWalk o_oftenAll o_oftenRoad o_oftenPegs), (b 1, .inl (cI, 149, .inl o_f1))] H := hP
    have hD : va_D A [(h0, oX10 b o_thrown o_taped o_size o_at o_from o_token o_value o_faultKind o_faultPlace o_lawNow o_walkSet o_oneWidow o_oneTurn o_askWorst o_mayWalk o_oftenAll o_oftenRoad o_oftenPegs), (b 1, .inl (cI, 149, .inl o_f1))] := hD
    obtain ⟨w10, w11, w12⟩ : 0 ≤ r7.toInt ∧ r7.toInt ≤ 12 ∧ r7.toInt = (o_f1 0).toInt := hw9
    obtain ⟨v13, ev13⟩ : ∃ y : Int64, r7.toInt64 = y := ⟨_, rfl⟩
    have tv13 : v13.toInt = (o_f1 0).toInt := ti_wide w12 ev13
    refine lv_i2l (v := v13) hx hb dX10_isYear_13 ev13 ?_
    refine k_i (wc := []) (wr := [(h0, oX10 b o_thrown o_taped o_size o_at o_from o_token o_value o_faultKind o_faultPlace o_lawNow o_walkSet o_oneWidow o_oneTurn o_askWorst o_mayWalk o_oftenAll o_oftenRoad o_oftenPegs), (b 1, .inl (cI, 149, .inl o_f1))]) hP hD hS hA [] [0, 1] rfl rfl rfl (by decide) (va_runS (As := [.long p0, .long 0, .long v13]) (rest := []) ⟨hx, hb, hml, hown, hts⟩ (f_X10_in l G cI cJ cZ cB cQ _ p0 a0 0 0 v13 ((o_f1 0).toInt) hp0 kl_0 tv13) (va_cwS 3 hts (gS w_1336 w_1337 w_11 w_1338) rfl rfl rfl hd_X10_in ⟨Nat.le_of_ble_eq_true rfl, Nat.le_of_ble_eq_true rfl⟩) (mS hK hZ hP hD [] rfl rfl [.long p0, .long 0, .long v13]) rfl rfl hl.1 rfl (lv_room (Nat.le_of_ble_eq_true rfl)) dX10_isYear_14 ⟨Nat.le_of_ble_eq_true rfl, Nat.le_of_ble_eq_true rfl⟩) (fun r14 u15 H locs hw16 hP hD hS => ?_)
    try dsimp only at hw16
    have hP : va_P G vwCl [(h0, oX10 b o_thrown o_taped o_size o_at o_from o_token o_value o_faultKind o_faultPlace o_lawNow o_walkSet o_oneWidow o_oneTurn o_askWorst o_mayWalk o_oftenAll o_oftenRoad o_oftenPegs), (b 1, .inl (cI, 149, .inl o_f1))] H := hP
    have hD : va_D A [(h0, oX10 b o_thrown o_taped o_size o_at o_from o_token o_value o_faultKind o_faultPlace o_lawNow o_walkSet o_oneWidow o_oneTurn o_askWorst o_mayWalk o_oftenAll o_oftenRoad o_oftenPegs), (b 1, .inl (cI, 149, .inl o_f1))] := hD
    rcases hw16 with ⟨rfl, a18, a19⟩ | ⟨rfl, a20⟩
    · skip
      refine lv_if_eq (tgt := 24) hx hb dX10_isYear_17 (by decide) (fun c21 => absurd c21 (by decide)) (fun c21 => ?_)
      refine lv_iconst (v := 1) hx hb dX10_isYear_20 (by decide) ?_
      refine lv_goto (tgt := 25) hx hb dX10_isYear_21 (by decide) ?_
      exact hret _ _ _ _ 1 () hP hD hS dX10_isYear_25 rfl (show (((1 : Int32) = 1 ∧ 0 ≤ a0 ∧ a0 ≤ (o_f1 0).toInt) ∨ ((1 : Int32) = 0)) from (Or.inl ⟨rfl, by omega, by omega⟩))
    · skip
      refine lv_if_eq (tgt := 24) hx hb dX10_isYear_17 (by decide) (fun c22 => ?_) (fun c22 => absurd (by decide) c22)
      refine lv_iconst (v := 0) hx hb dX10_isYear_24 (by decide) ?_
      exact hret _ _ _ _ 0 () hP hD hS dX10_isYear_25 rfl (show (((0 : Int32) = 1 ∧ 0 ≤ a0 ∧ a0 ≤ (o_f1 0).toInt) ∨ ((0 : Int32) = 0)) from (Or.inr rfl))
set_option maxHeartbeats 4000000 in
set_option maxRecDepth 100000 in
theorem f_X10_isCell (l : Launch) (G : va_G) (cI cJ cZ cB cQ : ClassId) (sz : Nat) (h0 : Nat) (p0 : Int64) (a0 : Int) (b : Nat → Nat) (o_thrown : Int32) (o_taped : Int32) (o_size : Int32) (o_at : Int32) (o_from : Int32) (o_token : Int32) (o_value : Int32) (o_faultKind : Int32) (o_faultPlace : Int32) (o_lawNow : Int32) (o_walkSet : Int32) (o_oneWidow : Int32) (o_oneTurn : Int32) (o_askWorst : Int32) (o_mayWalk : Int32) (o_oftenAll : Int64) (o_oftenRoad : Int64) (o_oftenPegs : Int64) (o_f1 : Nat → Int32) (hp0 : p0.toInt = a0) (hl_o_taped : 0 ≤ o_taped.toInt) (hh_o_taped : o_taped.toInt ≤ 900) (hl_o_size : 0 ≤ o_size.toInt) (hh_o_size : o_size.toInt ≤ 900) (hl_o_at : 0 ≤ o_at.toInt) (hh_o_at : o_at.toInt ≤ 900) (hl_o_from : 0 ≤ o_from.toInt) (hh_o_from : o_from.toInt ≤ 900) (hl_o_oneTurn : 0 ≤ o_oneTurn.toInt) (hh_o_oneTurn : o_oneTurn.toInt ≤ 4) (ha_o_f1 : WI o_f1) : CI l yX10_isCell (wl_ yX10_isCell cX10_isCell 3 (some .boolean)) ({ frames := 1, cells := 0, slots := 0, locals := 25 } : Room) G (TY cI cJ cZ cB cQ) [.ref h0, .long p0] [(h0, oX10 b o_thrown o_taped o_size o_at o_from o_token o_value o_faultKind o_faultPlace o_lawNow o_walkSet o_oneWidow o_oneTurn o_askWorst o_mayWalk o_oftenAll o_oftenRoad o_oftenPegs), (b 1, .inl (cI, 149, .inl o_f1))] sz (fun (r : Int32) (u : Unit) => ((r = 1 ∧ 0 ≤ a0 ∧ a0 / 10 < (o_f1 3).toInt ∧ a0 % 10 < (o_f1 4).toInt ∧ a0 ≤ 77) ∨ (r = 0))) (fun _ : Unit => [(h0, oX10 b o_thrown o_taped o_size o_at o_from o_token o_value o_faultKind o_faultPlace o_lawNow o_walkSet o_oneWidow o_oneTurn o_askWorst o_mayWalk o_oftenAll o_oftenRoad o_oftenPegs), (b 1, .inl (cI, 149, .inl o_f1))]) 0 0 := by
  refine CI.goz (cc := cX10_isCell) (maxL := 3) (ret := (some .boolean)) (by decide) rfl (Nat.le_of_ble_eq_true rfl) ?_
  intro p e s m below meth c A ls Q hBd hret
  obtain ⟨hx, hb, hr, hml, hts, hown, hlk, hnm, hP, hK, hD, hA, hZ, hl⟩ := hBd
  have hown : s.vm.findClass RX10 = some m.cls := hown
  have hl : lv_has ls 3 [(0, .ref h0), (1, .long p0)] := hl
  have hS : va_S A s.heap s.heap [] := va_S.rf
  refine lv_aload_n hx hb dX10_isCell_0 rfl (lv_at hl 0 rfl) ?_
  refine k_i (wc := [(h0, oX10 b o_thrown o_taped o_size o_at o_from o_token o_value o_faultKind o_faultPlace o_lawNow o_walkSet o_oneWidow o_oneTurn o_askWorst o_mayWalk o_oftenAll o_oftenRoad o_oftenPegs), (b 1, .inl (cI, 149, .inl o_f1))]) (wr := []) hP hD hS hA [0, 1] [] rfl rfl rfl (by decide) (va_runV (As := []) (rest := []) ⟨hx, hb, hml, hown, hts⟩ (f_X10_isColony l G cI cJ cZ cB cQ _ h0 b o_thrown o_taped o_size o_at o_from o_token o_value o_faultKind o_faultPlace o_lawNow o_walkSet o_oneWidow o_oneTurn o_askWorst o_mayWalk o_oftenAll o_oftenRoad o_oftenPegs o_f1 hl_o_taped hh_o_taped hl_o_size hh_o_size hl_o_at hh_o_at hl_o_from hh_o_from hl_o_oneTurn hh_o_oneTurn ha_o_f1) (cwV 0 hts (gV w_1554 w_1556 wp_120 w_11 w_1557) rfl rfl rfl ⟨rfl, hd_X10_isColony⟩ ⟨Nat.le_of_ble_eq_true rfl, Nat.le_of_ble_eq_true rfl⟩) (mV hK hZ hP hD [0, 1] rfl rfl [] 0 10 rfl rfl) rfl rfl hl.1 rfl (lv_room (Nat.le_of_ble_eq_true rfl)) dX10_isCell_1 ⟨Nat.le_of_ble_eq_true rfl, Nat.le_of_ble_eq_true rfl⟩) (fun r1 u2 H locs hw3 hP hD hS => ?_)
  try dsimp only at hw3
  have hP : va_P G vwCl [(h0, oX10 b o_thrown o_taped o_size o_at o_from o_token o_value o_faultKind o_faultPlace o_lawNow o_walkSet o_oneWidow o_oneTurn o_askWorst o_mayWalk o_oftenAll o_oftenRoad o_oftenPegs), (b 1, .inl (cI, 149, .inl o_f1))] H := hP
  have hD : va_D A [(h0, oX10 b o_thrown o_taped o_size o_at o_from o_token o_value o_faultKind o_faultPlace o_lawNow o_walkSet o_oneWidow o_oneTurn o_askWorst o_mayWalk o_oftenAll o_oftenRoad o_oftenPegs), (b 1, .inl (cI, 149, .inl o_f1))] := hD
  obtain ⟨w4, w5⟩ : 0 ≤ r1.toInt ∧ r1.toInt ≤ 1 := hw3
  refine lv_if_eq (tgt := 59) hx hb dX10_isCell_4 (by decide) (fun c6 => ?_) (fun c6 => ?_)
  · have c6 := i_eq rfl ki_0 c6
    refine lv_iconst (v := 0) hx hb dX10_isCell_59 (by decide) ?_
    exact hret _ _ _ _ 0 () hP hD hS dX10_isCell_60 rfl (show (((0 : Int32) = 1 ∧ 0 ≤ a0 ∧ a0 / 10 < (o_f1 3).toInt ∧ a0 % 10 < (o_f1 4).toInt ∧ a0 ≤ 77) ∨ ((0 : Int32) = 0)) from (Or.inr rfl))
  · have c6 := i_ne rfl ki_0 c6
    refine lv_lload_n hx hb dX10_isCell_7 rfl (lv_at hl 1 rfl) ?_
    refine lv_lconst (v := 0) hx hb dX10_isCell_8 (by decide) ?_
    refine W.lcmp hx hb dX10_isCell_9 ?_
    refine lv_if_lt (tgt := 59) hx hb dX10_isCell_10 (by decide) (fun c7 => ?_) (fun c7 => ?_)
    · have c7 := c_lt hp0 kl_0 c7
      refine lv_iconst (v := 0) hx hb dX10_isCell_59 (by decide) ?_
      exact hret _ _ _ _ 0 () hP hD hS dX10_isCell_60 rfl (show (((0 : Int32) = 1 ∧ 0 ≤ a0 ∧ a0 / 10 < (o_f1 3).toInt ∧ a0 % 10 < (o_f1 4).toInt ∧ a0 ≤ 77) ∨ ((0 : Int32) = 0)) from (Or.inr rfl))
    · have c7 := c_nlt hp0 kl_0 c7
      refine lv_lload_n hx hb dX10_isCell_13 rfl (lv_at hl 1 rfl) ?_
      refine lv_ldc2 (v := 10) hx hb hown (hts _ w_1558) dX10_isCell_14 ?_
      refine lv_ldiv hx hb dX10_isCell_17 (by decide) ?_
      refine lv_topl (fun v8 ev8 => ?_)
      have tv8 : v8.toInt = a0 / 10 := tl_div hp0 (by omega) (by decide) kl_10 ev8
      refine lv_lconst (v := 0) hx hb dX10_isCell_18 (by decide) ?_
      refine lv_aload_n hx hb dX10_isCell_19 rfl (lv_at hl 0 rfl) ?_
      refine va_get (D := G) (ci := 10) (v := .ref (b 1)) (C := RX10) (T := TX10) (N := 46) hx hb hts iG_X10 hown hK hP 0 rfl rfl 1 (by decide) (hts _ w_1193) (fun _ h9 => h9) rfl dX10_isCell_20 ?_
      refine lv_iconst (v := 3) hx hb dX10_isCell_23 (by decide) ?_
      refine va_iald hx hb hK hP 1 0 rfl rfl (ix_in ki_3 (by omega) (by omega)) dX10_isCell_24 ?_
      refine lv_topi (fun v9 ev9 => ?_)
      have tv9 : v9.toInt = (o_f1 3).toInt := by rw [ev9]; rfl
      obtain ⟨ia10, ib11⟩ := WB_3 ha_o_f1.1
      refine lv_iconst (v := 1) hx hb dX10_isCell_25 (by decide) ?_
      refine lv_isub hx hb dX10_isCell_26 ?_
      refine lv_topi (fun v12 ev12 => ?_)
      have tv12 : v12.toInt = ((o_f1 3).toInt) - 1 := ti_sub tv9 ki_1 ev12 (by omega) (by omega)
      obtain ⟨v13, ev13⟩ : ∃ y : Int64, v12.toInt64 = y := ⟨_, rfl⟩
      have tv13 : v13.toInt = ((o_f1 3).toInt) - 1 := ti_wide tv12 ev13
      refine lv_i2l (v := v13) hx hb dX10_isCell_27 ev13 ?_
      refine k_i (wc := []) (wr := [(h0, oX10 b o_thrown o_taped o_size o_at o_from o_token o_value o_faultKind o_faultPlace o_lawNow o_walkSet o_oneWidow o_oneTurn o_askWorst o_mayWalk o_oftenAll o_oftenRoad o_oftenPegs), (b 1, .inl (cI, 149, .inl o_f1))]) hP hD hS hA [] [0, 1] rfl rfl rfl (by decide) (va_runS (As := [.long v8, .long 0, .long v13]) (rest := []) ⟨hx, hb, hml, hown, hts⟩ (f_X10_in l G cI cJ cZ cB cQ _ v8 (a0 / 10) 0 0 v13 (((o_f1 3).toInt) - 1) tv8 kl_0 tv13) (va_cwS 3 hts (gS w_1336 w_1337 w_11 w_1338) rfl rfl rfl hd_X10_in ⟨Nat.le_of_ble_eq_true rfl, Nat.le_of_ble_eq_true rfl⟩) (mS hK hZ hP hD [] rfl rfl [.long v8, .long 0, .long v13]) rfl rfl hl.1 rfl (lv_room (Nat.le_of_ble_eq_true rfl)) dX10_isCell_28 ⟨Nat.le_of_ble_eq_true rfl, Nat.le_of_ble_eq_true rfl⟩) (fun r14 u15 H locs hw16 hP hD hS => ?_)
      try dsimp only at hw16
      have hP : va_P G vwCl [(h0, oX10 b o_thrown o_taped o_size o_at o_from o_token o_value o_faultKind o_faultPlace o_lawNow o_walkSet o_oneWidow o_oneTurn o_askWorst o_mayWalk o_oftenAll o_oftenRoad o_oftenPegs), (b 1, .inl (cI, 149, .inl o_f1))] H := hP
      have hD : va_D A [(h0, oX10 b o_thrown o_taped o_size o_at o_from o_token o_value o_faultKind o_faultPlace o_lawNow o_walkSet o_oneWidow o_oneTurn o_askWorst o_mayWalk o_oftenAll o_oftenRoad o_oftenPegs), (b 1, .inl (cI, 149, .inl o_f1))] := hD
      rcases hw16 with ⟨rfl, a18, a19⟩ | ⟨rfl, a20⟩
      · skip
        refine lv_if_eq (tgt := 59) hx hb dX10_isCell_31 (by decide) (fun c21 => absurd c21 (by decide)) (fun c21 => ?_)
        refine lv_lload_n hx hb dX10_isCell_34 rfl (lv_at hl 1 rfl) ?_
        refine lv_ldc2 (v := 10) hx hb hown (hts _ w_1558) dX10_isCell_35 ?_
        refine lv_lrem hx hb dX10_isCell_38 (by decide) ?_
        refine lv_topl (fun v22 ev22 => ?_)
        have tv22 : v22.toInt = a0 % 10 := tl_rem hp0 (by omega) (by decide) kl_10 ev22
        refine lv_lconst (v := 0) hx hb dX10_isCell_39 (by decide) ?_
        refine lv_aload_n hx hb dX10_isCell_40 rfl (lv_at hl 0 rfl) ?_
        refine va_get (D := G) (ci := 10) (v := .ref (b 1)) (C := RX10) (T := TX10) (N := 46) hx hb hts iG_X10 hown hK hP 0 rfl rfl 1 (by decide) (hts _ w_1193) (fun _ h9 => h9) rfl dX10_isCell_41 ?_
        refine lv_iconst (v := 4) hx hb dX10_isCell_44 (by decide) ?_
        refine va_iald hx hb hK hP 1 0 rfl rfl (ix_in ki_4 (by omega) (by omega)) dX10_isCell_45 ?_
        refine lv_topi (fun v23 ev23 => ?_)
        have tv23 : v23.toInt = (o_f1 4).toInt := by rw [ev23]; rfl
        obtain ⟨ia24, ib25⟩ := WB_4 ha_o_f1.1
        refine lv_iconst (v := 1) hx hb dX10_isCell_46 (by decide) ?_
        refine lv_isub hx hb dX10_isCell_47 ?_
        refine lv_topi (fun v26 ev26 => ?_)
        have tv26 : v26.toInt = ((o_f1 4).toInt) - 1 := ti_sub tv23 ki_1 ev26 (by omega) (by omega)
        obtain ⟨v27, ev27⟩ : ∃ y : Int64, v26.toInt64 = y := ⟨_, rfl⟩
        have tv27 : v27.toInt = ((o_f1 4).toInt) - 1 := ti_wide tv26 ev27
        refine lv_i2l (v := v27) hx hb dX10_isCell_48 ev27 ?_
        refine k_i (wc := []) (wr := [(h0, oX10 b o_thrown o_taped o_size o_at o_from o_token o_value o_faultKind o_faultPlace o_lawNow o_walkSet o_oneWidow o_oneTurn o_askWorst o_mayWalk o_oftenAll o_oftenRoad o_oftenPegs), (b 1, .inl (cI, 149, .inl o_f1))]) hP hD hS hA [] [0, 1] rfl rfl rfl (by decide) (va_runS (As := [.long v22, .long 0, .long v27]) (rest := []) ⟨hx, hb, hml, hown, hts⟩ (f_X10_in l G cI cJ cZ cB cQ _ v22 (a0 % 10) 0 0 v27 (((o_f1 4).toInt) - 1) tv22 kl_0 tv27) (va_cwS 3 hts (gS w_1336 w_1337 w_11 w_1338) rfl rfl rfl hd_X10_in ⟨Nat.le_of_ble_eq_true rfl, Nat.le_of_ble_eq_true rfl⟩) (mS hK hZ hP hD [] rfl rfl [.long v22, .long 0, .long v27]) rfl rfl hl.1 rfl (lv_room (Nat.le_of_ble_eq_true rfl)) dX10_isCell_49 ⟨Nat.le_of_ble_eq_true rfl, Nat.le_of_ble_eq_true rfl⟩) (fun r28 u29 H locs hw30 hP hD hS => ?_)
        try dsimp only at hw30
        have hP : va_P G vwCl [(h0, oX10 b o_thrown o_taped o_size o_at o_from o_token o_value o_faultKind o_faultPlace o_lawNow o_walkSet o_oneWidow o_oneTurn o_askWorst o_mayWalk o_oftenAll o_oftenRoad o_oftenPegs), (b 1, .inl (cI, 149, .inl o_f1))] H := hP
        have hD : va_D A [(h0, oX10 b o_thrown o_taped o_size o_at o_from o_token o_value o_faultKind o_faultPlace o_lawNow o_walkSet o_oneWidow o_oneTurn o_askWorst o_mayWalk o_oftenAll o_oftenRoad o_oftenPegs), (b 1, .inl (cI, 149, .inl o_f1))] := hD
        rcases hw30 with ⟨rfl, a32, a33⟩ | ⟨rfl, a34⟩
        · skip
          refine lv_if_eq (tgt := 59) hx hb dX10_isCell_52 (by decide) (fun c35 => absurd c35 (by decide)) (fun c35 => ?_)
          refine lv_iconst (v := 1) hx hb dX10_isCell_55 (by decide) ?_
          refine lv_goto (tgt := 60) hx hb dX10_isCell_56 (by decide) ?_
          exact hret _ _ _ _ 1 () hP hD hS dX10_isCell_60 rfl (show (((1 : Int32) = 1 ∧ 0 ≤ a0 ∧ a0 / 10 < (o_f1 3).toInt ∧ a0 % 10 < (o_f1 4).toInt ∧ a0 ≤ 77) ∨ ((1 : Int32) = 0)) from (Or.inl ⟨rfl, by omega, by omega, by omega, by omega⟩))
        · skip
          refine lv_if_eq (tgt := 59) hx hb dX10_isCell_52 (by decide) (fun c36 => ?_) (fun c36 => absurd (by decide) c36)
          refine lv_iconst (v := 0) hx hb dX10_isCell_59 (by decide) ?_
          exact hret _ _ _ _ 0 () hP hD hS dX10_isCell_60 rfl (show (((0 : Int32) = 1 ∧ 0 ≤ a0 ∧ a0 / 10 < (o_f1 3).toInt ∧ a0 % 10 < (o_f1 4).toInt ∧ a0 ≤ 77) ∨ ((0 : Int32) = 0)) from (Or.inr rfl))
      · skip
        refine lv_if_eq (tgt := 59) hx hb dX10_isCell_31 (by decide) (fun c37 => ?_) (fun c37 => absurd (by decide) c37)
        refine lv_iconst (v := 0) hx hb dX10_isCell_59 (by decide) ?_
        exact hret _ _ _ _ 0 () hP hD hS dX10_isCell_60 rfl (show (((0 : Int32) = 1 ∧ 0 ≤ a0 ∧ a0 / 10 < (o_f1 3).toInt ∧ a0 % 10 < (o_f1 4).toInt ∧ a0 ≤ 77) ∨ ((0 : Int32) = 0)) from (Or.inr rfl))
set_option maxHeartbeats 4000000 in
set_option maxRecDepth 100000 in
theorem f_X10_isWidow (l : Launch) (G : va_G) (cI cJ cZ cB cQ : ClassId) (sz : Nat) (h0 : Nat) (p0 : Int64) (a0 : Int) (b : Nat → Nat) (o_thrown : Int32) (o_taped : Int32) (o_size : Int32) (o_at : Int32) (o_from : Int32) (o_token : Int32) (o_value : Int32) (o_faultKind : Int32) (o_faultPlace : Int32) (o_lawNow : Int32) (o_walkSet : Int32) (o_oneWidow : Int32) (o_oneTurn : Int32) (o_askWorst : Int32) (o_mayWalk : Int32) (o_oftenAll : Int64) (o_oftenRoad : Int64) (o_oftenPegs : Int64) (o_f1 : Nat → Int32) (hp0 : p0.toInt = a0) (hl_o_taped : 0 ≤ o_taped.toInt) (hh_o_taped : o_taped.toInt ≤ 900) (hl_o_size : 0 ≤ o_size.toInt) (hh_o_size : o_size.toInt ≤ 900) (hl_o_at : 0 ≤ o_at.toInt) (hh_o_at : o_at.toInt ≤ 900) (hl_o_from : 0 ≤ o_from.toInt) (hh_o_from : o_from.toInt ≤ 900) (hl_o_oneTurn : 0 ≤ o_oneTurn.toInt) (hh_o_oneTurn : o_oneTurn.toInt ≤ 4) (ha_o_f1 : WI o_f1) : CI l yX10_isWidow (wl_ yX10_isWidow cX10_isWidow 3 (some .boolean)) ({ frames := 1, cells := 0, slots := 0, locals := 25 } : Room) G (TY cI cJ cZ cB cQ) [.ref h0, .long p0] [(h0, oX10 b o_thrown o_taped o_size o_at o_from o_token o_value o_faultKind o_faultPlace o_lawNow o_walkSet o_oneWidow o_oneTurn o_askWorst o_mayWalk o_oftenAll o_oftenRoad o_oftenPegs), (b 1, .inl (cI, 149, .inl o_f1))] sz (fun (r : Int32) (u : Unit) => ((r = 1 ∧ 0 ≤ a0 ∧ a0 < (o_f1 7).toInt) ∨ (r = 0 ∧ (a0 < 0 ∨ (o_f1 7).toInt ≤ a0)))) (fun _ : Unit => [(h0, oX10 b o_thrown o_taped o_size o_at o_from o_token o_value o_faultKind o_faultPlace o_lawNow o_walkSet o_oneWidow o_oneTurn o_askWorst o_mayWalk o_oftenAll o_oftenRoad o_oftenPegs), (b 1, .inl (cI, 149, .inl o_f1))]) 0 0 := by
  refine CI.goz (cc := cX10_isWidow) (maxL := 3) (ret := (some .boolean)) (by decide) rfl (Nat.le_of_ble_eq_true rfl) ?_
  intro p e s m below meth c A ls Q hBd hret
  obtain ⟨hx, hb, hr, hml, hts, hown, hlk, hnm, hP, hK, hD, hA, hZ, hl⟩ := hBd
  have hown : s.vm.findClass RX10 = some m.cls := hown
  have hl : lv_has ls 3 [(0, .ref h0), (1, .long p0)] := hl
  have hS : va_S A s.heap s.heap [] := va_S.rf
  refine lv_lload_n hx hb dX10_isWidow_0 rfl (lv_at hl 1 rfl) ?_
  refine lv_lconst (v := 0) hx hb dX10_isWidow_1 (by decide) ?_
  refine lv_aload_n hx hb dX10_isWidow_2 rfl (lv_at hl 0 rfl) ?_
  refine k_i (wc := [(h0, oX10 b o_thrown o_taped o_size o_at o_from o_token o_value o_faultKind o_faultPlace o_lawNow o_walkSet o_oneWidow o_oneTurn o_askWorst o_mayWalk o_oftenAll o_oftenRoad o_oftenPegs), (b 1, .inl (cI, 149, .inl o_f1))]) (wr := []) hP hD hS hA [0, 1] [] rfl rfl rfl (by decide) (va_runV (As := []) (rest := [.long 0, .long p0]) ⟨hx, hb, hml, hown, hts⟩ (f_X10_widows l G cI cJ cZ cB cQ _ h0 b o_thrown o_taped o_size o_at o_from o_token o_value o_faultKind o_faultPlace o_lawNow o_walkSet o_oneWidow o_oneTurn o_askWorst o_mayWalk o_oftenAll o_oftenRoad o_oftenPegs o_f1 hl_o_taped hh_o_taped hl_o_size hh_o_size hl_o_at hh_o_at hl_o_from hh_o_from hl_o_oneTurn hh_o_oneTurn ha_o_f1) (cwV 0 hts (gV w_1464 w_1466 wp_102 w_11 w_1467) rfl rfl rfl ⟨rfl, hd_X10_widows⟩ ⟨Nat.le_of_ble_eq_true rfl, Nat.le_of_ble_eq_true rfl⟩) (mV hK hZ hP hD [0, 1] rfl rfl [] 0 10 rfl rfl) rfl rfl hl.1 rfl (lv_room (Nat.le_of_ble_eq_true rfl)) dX10_isWidow_3 ⟨Nat.le_of_ble_eq_true rfl, Nat.le_of_ble_eq_true rfl⟩) (fun r1 u2 H locs hw3 hP hD hS => ?_)
  try dsimp only at hw3
  have hP : va_P G vwCl [(h0, oX10 b o_thrown o_taped o_size o_at o_from o_token o_value o_faultKind o_faultPlace o_lawNow o_walkSet o_oneWidow o_oneTurn o_askWorst o_mayWalk o_oftenAll o_oftenRoad o_oftenPegs), (b 1, .inl (cI, 149, .inl o_f1))] H := hP
  have hD : va_D A [(h0, oX10 b o_thrown o_taped o_size o_at o_from o_token o_value o_faultKind o_faultPlace o_lawNow o_walkSet o_oneWidow o_oneTurn o_askWorst o_mayWalk o_oftenAll o_oftenRoad o_oftenPegs), (b 1, .inl (cI, 149, .inl o_f1))] := hD
  obtain ⟨w4, w5, w6⟩ : 0 ≤ r1.toInt ∧ r1.toInt ≤ 7 ∧ r1.toInt = (o_f1 7).toInt := hw3
  refine lv_iconst (v := 1) hx hb dX10_isWidow_6 (by decide) ?_
  refine lv_isub hx hb dX10_isWidow_7 ?_
  refine lv_topi (fun v7 ev7 => ?_)
  have tv7 : v7.toInt = ((o_f1 7).toInt) - 1 := ti_sub w6 ki_1 ev7 (by omega) (by omega)
  obtain ⟨v8, ev8⟩ : ∃ y : Int64, v7.toInt64 = y := ⟨_, rfl⟩
  have tv8 : v8.toInt = ((o_f1 7).toInt) - 1 := ti_wide tv7 ev8
  refine lv_i2l (v := v8) hx hb dX10_isWidow_8 ev8 ?_
  refine k_i (wc := []) (wr := [(h0, oX10 b o_thrown o_taped o_size o_at o_from o_token o_value o_faultKind o_faultPlace o_lawNow o_walkSet o_oneWidow o_oneTurn o_askWorst o_mayWalk o_oftenAll o_oftenRoad o_oftenPegs), (b 1, .inl (cI, 149, .inl o_f1))]) hP hD hS hA [] [0, 1] rfl rfl rfl (by decide) (va_runS (As := [.long p0, .long 0, .long v8]) (rest := []) ⟨hx, hb, hml, hown, hts⟩ (f_X10_in l G cI cJ cZ cB cQ _ p0 a0 0 0 v8 (((o_f1 7).toInt) - 1) hp0 kl_0 tv8) (va_cwS 3 hts (gS w_1336 w_1337 w_11 w_1338) rfl rfl rfl hd_X10_in ⟨Nat.le_of_ble_eq_true rfl, Nat.le_of_ble_eq_true rfl⟩) (mS hK hZ hP hD [] rfl rfl [.long p0, .long 0, .long v8]) rfl rfl hl.1 rfl (lv_room (Nat.le_of_ble_eq_true rfl)) dX10_isWidow_9 ⟨Nat.le_of_ble_eq_true rfl, Nat.le_of_ble_eq_true rfl⟩) (fun r9 u10 H locs hw11 hP hD hS => ?_)
  try dsimp only at hw11
  have hP : va_P G vwCl [(h0, oX10 b o_thrown o_taped o_size o_at o_from o_token o_value o_faultKind o_faultPlace o_lawNow o_walkSet o_oneWidow o_oneTurn o_askWorst o_mayWalk o_oftenAll o_oftenRoad o_oftenPegs), (b 1, .inl (cI, 149, .inl o_f1))] H := hP
  have hD : va_D A [(h0, oX10 b o_thrown o_taped o_size o_at o_from o_token o_value o_faultKind o_faultPlace o_lawNow o_walkSet o_oneWidow o_oneTurn o_askWorst o_mayWalk o_oftenAll o_oftenRoad o_oftenPegs), (b 1, .inl (cI, 149, .inl o_f1))] := hD
  rcases hw11 with ⟨rfl, a13, a14⟩ | ⟨rfl, a15⟩
  · skip
    exact hret _ _ _ _ 1 () hP hD hS dX10_isWidow_12 rfl (show (((1 : Int32) = 1 ∧ 0 ≤ a0 ∧ a0 < (o_f1 7).toInt) ∨ ((1 : Int32) = 0 ∧ (a0 < 0 ∨ (o_f1 7).toInt ≤ a0))) from (Or.inl ⟨rfl, by omega, by omega⟩))
  · skip
    exact hret _ _ _ _ 0 () hP hD hS dX10_isWidow_12 rfl (show (((0 : Int32) = 1 ∧ 0 ≤ a0 ∧ a0 < (o_f1 7).toInt) ∨ ((0 : Int32) = 0 ∧ (a0 < 0 ∨ (o_f1 7).toInt ≤ a0))) from (Or.inr ⟨rfl, by omega⟩))
set_option maxHeartbeats 4000000 in
set_option maxRecDepth 100000 in
theorem f_X10_widowOf (l : Launch) (G : va_G) (cI cJ cZ cB cQ : ClassId) (sz : Nat) (h0 : Nat) (p0 : Int32) (a0 : Int) (p1 : Int32) (a1 : Int) (b : Nat → Nat) (o_thrown : Int32) (o_taped : Int32) (o_size : Int32) (o_at : Int32) (o_from : Int32) (o_token : Int32) (o_value : Int32) (o_faultKind : Int32) (o_faultPlace : Int32) (o_lawNow : Int32) (o_walkSet : Int32) (o_oneWidow : Int32) (o_oneTurn : Int32) (o_askWorst : Int32) (o_mayWalk : Int32) (o_oftenAll : Int64) (o_oftenRoad : Int64) (o_oftenPegs : Int64) (o_f1 : Nat → Int32) (hp0 : p0.toInt = a0) (la0 : 0 ≤ a0) (ha0 : a0 ≤ 6) (hp1 : p1.toInt = a1) (la1 : 0 ≤ a1) (ha1 : a1 ≤ 12) (hl_o_taped : 0 ≤ o_taped.toInt) (hh_o_taped : o_taped.toInt ≤ 900) (hl_o_size : 0 ≤ o_size.toInt) (hh_o_size : o_size.toInt ≤ 900) (hl_o_at : 0 ≤ o_at.toInt) (hh_o_at : o_at.toInt ≤ 900) (hl_o_from : 0 ≤ o_from.toInt) (hh_o_from : o_from.toInt ≤ 900) (hl_o_oneTurn : 0 ≤ o_oneTurn.toInt) (hh_o_oneTurn : o_oneTurn.toInt ≤ 4) (ha_o_f1 : WI o_f1) : CI l yX10_widowOf (wl_ yX10_widowOf cX10_widowOf 3 (some .int)) ({ frames := 0, cells := 0, slots := 0, locals := 0 } : Room) G (TY cI cJ cZ cB cQ) [.ref h0, .int p0, .int p1] [(h0, oX10 b o_thrown o_taped o_size o_at o_from o_token o_value o_faultKind o_faultPlace o_lawNow o_walkSet o_oneWidow o_oneTurn o_askWorst o_mayWalk o_oftenAll o_oftenRoad o_oftenPegs), (b 1, .inl (cI, 149, .inl o_f1))] sz (fun (r : Int32) (u : Unit) => r.toInt = wv o_f1 a0 a1) (fun _ : Unit => [(h0, oX10 b o_thrown o_taped o_size o_at o_from o_token o_value o_faultKind o_faultPlace o_lawNow o_walkSet o_oneWidow o_oneTurn o_askWorst o_mayWalk o_oftenAll o_oftenRoad o_oftenPegs), (b 1, .inl (cI, 149, .inl o_f1))]) 0 0 := by
  refine CI.go (cc := cX10_widowOf) (maxL := 3) (ret := (some .int)) (by decide) rfl (Nat.le_of_ble_eq_true rfl) ?_
  intro p e s m below meth c A ls Q hBd hret
  obtain ⟨hx, hb, hr, hml, hts, hown, hlk, hnm, hP, hK, hD, hA, hZ, hl⟩ := hBd
  have hown : s.vm.findClass RX10 = some m.cls := hown
  have hl : lv_has ls 3 [(0, .ref h0), (1, .int p0), (2, .int p1)] := hl
  have hS : va_S A s.heap s.heap [] := va_S.rf
  refine lv_aload_n hx hb dX10_widowOf_0 rfl (lv_at hl 0 rfl) ?_
  refine va_get (D := G) (ci := 10) (v := .ref (b 1)) (C := RX10) (T := TX10) (N := 46) hx hb hts iG_X10 hown hK hP 0 rfl rfl 1 (by decide) (hts _ w_1193) (fun _ h9 => h9) rfl dX10_widowOf_1 ?_
  refine lv_bipush (v := 28) hx hb dX10_widowOf_4 (by decide) ?_
  refine lv_bipush (v := 13) hx hb dX10_widowOf_6 (by decide) ?_
  refine lv_iload_n hx hb dX10_widowOf_8 rfl (lv_at hl 1 rfl) ?_
  refine lv_imul hx hb dX10_widowOf_9 ?_
  refine lv_topi (fun v1 ev1 => ?_)
  have tv1 : v1.toInt = 13 * a0 := ti_mul ki_13 hp0 ev1 (by omega) (by omega)
  refine lv_iadd hx hb dX10_widowOf_10 ?_
  refine lv_topi (fun v2 ev2 => ?_)
  have tv2 : v2.toInt = 28 + (13 * a0) := ti_add ki_28 tv1 ev2 (by omega) (by omega)
  refine lv_iload_n hx hb dX10_widowOf_11 rfl (lv_at hl 2 rfl) ?_
  refine lv_iadd hx hb dX10_widowOf_12 ?_
  refine lv_topi (fun v3 ev3 => ?_)
  have tv3 : v3.toInt = 28 + (13 * a0) + a1 := ti_add tv2 hp1 ev3 (by omega) (by omega)
  refine va_iald hx hb hK hP 1 0 rfl rfl (ix_in tv3 (by omega) (by omega)) dX10_widowOf_13 ?_
  refine lv_topi (fun v4 ev4 => ?_)
  exact hret _ _ _ _ v4 () hP hD hS dX10_widowOf_14 (show v4.toInt = wv o_f1 a0 a1 from (wv_load tv3 (by omega) (by omega) ev4))
set_option maxHeartbeats 4000000 in
set_option maxRecDepth 100000 in
theorem f_X10_areTwo (l : Launch) (G : va_G) (cI cJ cZ cB cQ : ClassId) (sz : Nat) (h0 : Nat) (p0 : Int32) (a0 : Int) (p1 : Int32) (a1 : Int) (b : Nat → Nat) (o_thrown : Int32) (o_taped : Int32) (o_size : Int32) (o_at : Int32) (o_from : Int32) (o_token : Int32) (o_value : Int32) (o_faultKind : Int32) (o_faultPlace : Int32) (o_lawNow : Int32) (o_walkSet : Int32) (o_oneWidow : Int32) (o_oneTurn : Int32) (o_askWorst : Int32) (o_mayWalk : Int32) (o_oftenAll : Int64) (o_oftenRoad : Int64) (o_oftenPegs : Int64) (o_f1 : Nat → Int32) (hp0 : p0.toInt = a0) (hp1 : p1.toInt = a1) (hl_o_taped : 0 ≤ o_taped.toInt) (hh_o_taped : o_taped.toInt ≤ 900) (hl_o_size : 0 ≤ o_size.toInt) (hh_o_size : o_size.toInt ≤ 900) (hl_o_at : 0 ≤ o_at.toInt) (hh_o_at : o_at.toInt ≤ 900) (hl_o_from : 0 ≤ o_from.toInt) (hh_o_from : o_from.toInt ≤ 900) (hl_o_oneTurn : 0 ≤ o_oneTurn.toInt) (hh_o_oneTurn : o_oneTurn.toInt ≤ 4) (ha_o_f1 : WI o_f1) : CI l yX10_areTwo (wl_ yX10_areTwo cX10_areTwo 3 (some .boolean)) ({ frames := 2, cells := 0, slots := 0, locals := 47 } : Room) G (TY cI cJ cZ cB cQ) [.ref h0, .int p0, .int p1] [(h0, oX10 b o_thrown o_taped o_size o_at o_from o_token o_value o_faultKind o_faultPlace o_lawNow o_walkSet o_oneWidow o_oneTurn o_askWorst o_mayWalk o_oftenAll o_oftenRoad o_oftenPegs), (b 1, .inl (cI, 149, .inl o_f1))] sz (fun (r : Int32) (u : Unit) => ((r = 1 ∧ 0 ≤ a0 ∧ a0 < (o_f1 7).toInt ∧ 0 ≤ a1 ∧ a1 < (o_f1 7).toInt) ∨ (r = 0))) (fun _ : Unit => [(h0, oX10 b o_thrown o_taped o_size o_at o_from o_token o_value o_faultKind o_faultPlace o_lawNow o_walkSet o_oneWidow o_oneTurn o_askWorst o_mayWalk o_oftenAll o_oftenRoad o_oftenPegs), (b 1, .inl (cI, 149, .inl o_f1))]) 0 0 := by
  refine CI.goz (cc := cX10_areTwo) (maxL := 3) (ret := (some .boolean)) (by decide) rfl (Nat.le_of_ble_eq_true rfl) ?_
  intro p e s m below meth c A ls Q hBd hret
  obtain ⟨hx, hb, hr, hml, hts, hown, hlk, hnm, hP, hK, hD, hA, hZ, hl⟩ := hBd
  have hown : s.vm.findClass RX10 = some m.cls := hown
  have hl : lv_has ls 3 [(0, .ref h0), (1, .int p0), (2, .int p1)] := hl
  have hS : va_S A s.heap s.heap [] := va_S.rf
  refine lv_aload_n hx hb dX10_areTwo_0 rfl (lv_at hl 0 rfl) ?_
  refine lv_iload_n hx hb dX10_areTwo_1 rfl (lv_at hl 1 rfl) ?_
  obtain ⟨v1, ev1⟩ : ∃ y : Int64, p0.toInt64 = y := ⟨_, rfl⟩
  have tv1 : v1.toInt = a0 := ti_wide hp0 ev1
  refine lv_i2l (v := v1) hx hb dX10_areTwo_2 ev1 ?_
  refine k_i (wc := [(h0, oX10 b o_thrown o_taped o_size o_at o_from o_token o_value o_faultKind o_faultPlace o_lawNow o_walkSet o_oneWidow o_oneTurn o_askWorst o_mayWalk o_oftenAll o_oftenRoad o_oftenPegs), (b 1, .inl (cI, 149, .inl o_f1))]) (wr := []) hP hD hS hA [0, 1] [] rfl rfl rfl (by decide) (va_runV (As := [.long v1]) (rest := []) ⟨hx, hb, hml, hown, hts⟩ (f_X10_isWidow l G cI cJ cZ cB cQ _ h0 v1 a0 b o_thrown o_taped o_size o_at o_from o_token o_value o_faultKind o_faultPlace o_lawNow o_walkSet o_oneWidow o_oneTurn o_askWorst o_mayWalk o_oftenAll o_oftenRoad o_oftenPegs o_f1 tv1 hl_o_taped hh_o_taped hl_o_size hh_o_size hl_o_at hh_o_at hl_o_from hh_o_from hl_o_oneTurn hh_o_oneTurn ha_o_f1) (cwV 1 hts (gV w_1460 w_1462 wp_101 w_11 w_1463) rfl rfl rfl ⟨rfl, hd_X10_isWidow⟩ ⟨Nat.le_of_ble_eq_true rfl, Nat.le_of_ble_eq_true rfl⟩) (mV hK hZ hP hD [0, 1] rfl rfl [.long v1] 0 10 rfl rfl) rfl rfl hl.1 rfl (lv_room (Nat.le_of_ble_eq_true rfl)) dX10_areTwo_3 ⟨Nat.le_of_ble_eq_true rfl, Nat.le_of_ble_eq_true rfl⟩) (fun r2 u3 H locs hw4 hP hD hS => ?_)
  try dsimp only at hw4
  have hP : va_P G vwCl [(h0, oX10 b o_thrown o_taped o_size o_at o_from o_token o_value o_faultKind o_faultPlace o_lawNow o_walkSet o_oneWidow o_oneTurn o_askWorst o_mayWalk o_oftenAll o_oftenRoad o_oftenPegs), (b 1, .inl (cI, 149, .inl o_f1))] H := hP
  have hD : va_D A [(h0, oX10 b o_thrown o_taped o_size o_at o_from o_token o_value o_faultKind o_faultPlace o_lawNow o_walkSet o_oneWidow o_oneTurn o_askWorst o_mayWalk o_oftenAll o_oftenRoad o_oftenPegs), (b 1, .inl (cI, 149, .inl o_f1))] := hD
  rcases hw4 with ⟨rfl, a6, a7⟩ | ⟨rfl, a8⟩
  · skip
    refine lv_if_eq (tgt := 27) hx hb dX10_areTwo_6 (by decide) (fun c9 => absurd c9 (by decide)) (fun c9 => ?_)
    refine lv_aload_n hx hb dX10_areTwo_9 rfl (lv_at hl 0 rfl) ?_
    refine lv_iload_n hx hb dX10_areTwo_10 rfl (lv_at hl 2 rfl) ?_
    obtain ⟨v10, ev10⟩ : ∃ y : Int64, p1.toInt64 = y := ⟨_, rfl⟩
    have tv10 : v10.toInt = a1 := ti_wide hp1 ev10
    refine lv_i2l (v := v10) hx hb dX10_areTwo_11 ev10 ?_
    refine k_i (wc := [(h0, oX10 b o_thrown o_taped o_size o_at o_from o_token o_value o_faultKind o_faultPlace o_lawNow o_walkSet o_oneWidow o_oneTurn o_askWorst o_mayWalk o_oftenAll o_oftenRoad o_oftenPegs), (b 1, .inl (cI, 149, .inl o_f1))]) (wr := []) hP hD hS hA [0, 1] [] rfl rfl rfl (by decide) (va_runV (As := [.long v10]) (rest := []) ⟨hx, hb, hml, hown, hts⟩ (f_X10_isWidow l G cI cJ cZ cB cQ _ h0 v10 a1 b o_thrown o_taped o_size o_at o_from o_token o_value o_faultKind o_faultPlace o_lawNow o_walkSet o_oneWidow o_oneTurn o_askWorst o_mayWalk o_oftenAll o_oftenRoad o_oftenPegs o_f1 tv10 hl_o_taped hh_o_taped hl_o_size hh_o_size hl_o_at hh_o_at hl_o_from hh_o_from hl_o_oneTurn hh_o_oneTurn ha_o_f1) (cwV 1 hts (gV w_1460 w_1462 wp_101 w_11 w_1463) rfl rfl rfl ⟨rfl, hd_X10_isWidow⟩ ⟨Nat.le_of_ble_eq_true rfl, Nat.le_of_ble_eq_true rfl⟩) (mV hK hZ hP hD [0, 1] rfl rfl [.long v10] 0 10 rfl rfl) rfl rfl hl.1 rfl (lv_room (Nat.le_of_ble_eq_true rfl)) dX10_areTwo_12 ⟨Nat.le_of_ble_eq_true rfl, Nat.le_of_ble_eq_true rfl⟩) (fun r11 u12 H locs hw13 hP hD hS => ?_)
    try dsimp only at hw13
    have hP : va_P G vwCl [(h0, oX10 b o_thrown o_taped o_size o_at o_from o_token o_value o_faultKind o_faultPlace o_lawNow o_walkSet o_oneWidow o_oneTurn o_askWorst o_mayWalk o_oftenAll o_oftenRoad o_oftenPegs), (b 1, .inl (cI, 149, .inl o_f1))] H := hP
    have hD : va_D A [(h0, oX10 b o_thrown o_taped o_size o_at o_from o_token o_value o_faultKind o_faultPlace o_lawNow o_walkSet o_oneWidow o_oneTurn o_askWorst o_mayWalk o_oftenAll o_oftenRoad o_oftenPegs), (b 1, .inl (cI, 149, .inl o_f1))] := hD
    rcases hw13 with ⟨rfl, a15, a16⟩ | ⟨rfl, a17⟩
    · skip
      refine lv_if_eq (tgt := 27) hx hb dX10_areTwo_15 (by decide) (fun c18 => absurd c18 (by decide)) (fun c18 => ?_)
      refine lv_iload_n hx hb dX10_areTwo_18 rfl (lv_at hl 1 rfl) ?_
      refine lv_iload_n hx hb dX10_areTwo_19 rfl (lv_at hl 2 rfl) ?_
      refine lv_icmp_eq (tgt := 27) hx hb dX10_areTwo_20 (by decide) (fun c19 => ?_) (fun c19 => ?_)
      · have c19 := i_eq hp0 hp1 c19
        refine lv_iconst (v := 0) hx hb dX10_areTwo_27 (by decide) ?_
        exact hret _ _ _ _ 0 () hP hD hS dX10_areTwo_28 rfl (show (((0 : Int32) = 1 ∧ 0 ≤ a0 ∧ a0 < (o_f1 7).toInt ∧ 0 ≤ a1 ∧ a1 < (o_f1 7).toInt) ∨ ((0 : Int32) = 0)) from (Or.inr rfl))
      · have c19 := i_ne hp0 hp1 c19
        refine lv_iconst (v := 1) hx hb dX10_areTwo_23 (by decide) ?_
        refine lv_goto (tgt := 28) hx hb dX10_areTwo_24 (by decide) ?_
        exact hret _ _ _ _ 1 () hP hD hS dX10_areTwo_28 rfl (show (((1 : Int32) = 1 ∧ 0 ≤ a0 ∧ a0 < (o_f1 7).toInt ∧ 0 ≤ a1 ∧ a1 < (o_f1 7).toInt) ∨ ((1 : Int32) = 0)) from (Or.inl ⟨rfl, by omega, by omega, by omega, by omega⟩))
    · skip
      refine lv_if_eq (tgt := 27) hx hb dX10_areTwo_15 (by decide) (fun c20 => ?_) (fun c20 => absurd (by decide) c20)
      refine lv_iconst (v := 0) hx hb dX10_areTwo_27 (by decide) ?_
      exact hret _ _ _ _ 0 () hP hD hS dX10_areTwo_28 rfl (show (((0 : Int32) = 1 ∧ 0 ≤ a0 ∧ a0 < (o_f1 7).toInt ∧ 0 ≤ a1 ∧ a1 < (o_f1 7).toInt) ∨ ((0 : Int32) = 0)) from (Or.inr rfl))
  · skip
    refine lv_if_eq (tgt := 27) hx hb dX10_areTwo_6 (by decide) (fun c21 => ?_) (fun c21 => absurd (by decide) c21)
    refine lv_iconst (v := 0) hx hb dX10_areTwo_27 (by decide) ?_
    exact hret _ _ _ _ 0 () hP hD hS dX10_areTwo_28 rfl (show (((0 : Int32) = 1 ∧ 0 ≤ a0 ∧ a0 < (o_f1 7).toInt ∧ 0 ≤ a1 ∧ a1 < (o_f1 7).toInt) ∨ ((0 : Int32) = 0)) from (Or.inr rfl))
set_option maxHeartbeats 4000000 in
set_option maxRecDepth 100000 in
theorem f_X10_isHouseTold (l : Launch) (G : va_G) (cI cJ cZ cB cQ : ClassId) (sz : Nat) (h0 : Nat) (p0 : Int32) (a0 : Int) (b : Nat → Nat) (o_thrown : Int32) (o_taped : Int32) (o_size : Int32) (o_at : Int32) (o_from : Int32) (o_token : Int32) (o_value : Int32) (o_faultKind : Int32) (o_faultPlace : Int32) (o_lawNow : Int32) (o_walkSet : Int32) (o_oneWidow : Int32) (o_oneTurn : Int32) (o_askWorst : Int32) (o_mayWalk : Int32) (o_oftenAll : Int64) (o_oftenRoad : Int64) (o_oftenPegs : Int64) (o_f1 : Nat → Int32) (hp0 : p0.toInt = a0) (hl_o_taped : 0 ≤ o_taped.toInt) (hh_o_taped : o_taped.toInt ≤ 900) (hl_o_size : 0 ≤ o_size.toInt) (hh_o_size : o_size.toInt ≤ 900) (hl_o_at : 0 ≤ o_at.toInt) (hh_o_at : o_at.toInt ≤ 900) (hl_o_from : 0 ≤ o_from.toInt) (hh_o_from : o_from.toInt ≤ 900) (hl_o_oneTurn : 0 ≤ o_oneTurn.toInt) (hh_o_oneTurn : o_oneTurn.toInt ≤ 4) (ha_o_f1 : WI o_f1) : CI l yX10_isHouseTold (wl_ yX10_isHouseTold cX10_isHouseTold 2 (some .boolean)) ({ frames := 1, cells := 0, slots := 0, locals := 25 } : Room) G (TY cI cJ cZ cB cQ) [.ref h0, .int p0] [(h0, oX10 b o_thrown o_taped o_size o_at o_from o_token o_value o_faultKind o_faultPlace o_lawNow o_walkSet o_oneWidow o_oneTurn o_askWorst o_mayWalk o_oftenAll o_oftenRoad o_oftenPegs), (b 1, .inl (cI, 149, .inl o_f1))] sz (fun (r : Int32) (u : Unit) => ((r = 1 ∧ 0 ≤ a0 ∧ a0 < (o_f1 6).toInt) ∨ (r = 0))) (fun _ : Unit => [(h0, oX10 b o_thrown o_taped o_size o_at o_from o_token o_value o_faultKind o_faultPlace o_lawNow o_walkSet o_oneWidow o_oneTurn o_askWorst o_mayWalk o_oftenAll o_oftenRoad o_oftenPegs), (b 1, .inl (cI, 149, .inl o_f1))]) 0 0 := by
  refine CI.goz (cc := cX10_isHouseTold) (maxL := 2) (ret := (some .boolean)) (by decide) rfl (Nat.le_of_ble_eq_true rfl) ?_
  intro p e s m below meth c A ls Q hBd hret
  obtain ⟨hx, hb, hr, hml, hts, hown, hlk, hnm, hP, hK, hD, hA, hZ, hl⟩ := hBd
  have hown : s.vm.findClass RX10 = some m.cls := hown
  have hl : lv_has ls 2 [(0, .ref h0), (1, .int p0)] := hl
  have hS : va_S A s.heap s.heap [] := va_S.rf
  refine lv_iload_n hx hb dX10_isHouseTold_0 rfl (lv_at hl 1 rfl) ?_
  obtain ⟨v1, ev1⟩ : ∃ y : Int64, p0.toInt64 = y := ⟨_, rfl⟩
  have tv1 : v1.toInt = a0 := ti_wide hp0 ev1
  refine lv_i2l (v := v1) hx hb dX10_isHouseTold_1 ev1 ?_
  refine lv_lconst (v := 0) hx hb dX10_isHouseTold_2 (by decide) ?_
  refine lv_aload_n hx hb dX10_isHouseTold_3 rfl (lv_at hl 0 rfl) ?_
  refine k_i (wc := [(h0, oX10 b o_thrown o_taped o_size o_at o_from o_token o_value o_faultKind o_faultPlace o_lawNow o_walkSet o_oneWidow o_oneTurn o_askWorst o_mayWalk o_oftenAll o_oftenRoad o_oftenPegs), (b 1, .inl (cI, 149, .inl o_f1))]) (wr := []) hP hD hS hA [0, 1] [] rfl rfl rfl (by decide) (va_runV (As := []) (rest := [.long 0, .long v1]) ⟨hx, hb, hml, hown, hts⟩ (f_X10_houses l G cI cJ cZ cB cQ _ h0 b o_thrown o_taped o_size o_at o_from o_token o_value o_faultKind o_faultPlace o_lawNow o_walkSet o_oneWidow o_oneTurn o_askWorst o_mayWalk o_oftenAll o_oftenRoad o_oftenPegs o_f1 hl_o_taped hh_o_taped hl_o_size hh_o_size hl_o_at hh_o_at hl_o_from hh_o_from hl_o_oneTurn hh_o_oneTurn ha_o_f1) (cwV 0 hts (gV w_1542 w_1544 wp_117 w_11 w_1545) rfl rfl rfl ⟨rfl, hd_X10_houses⟩ ⟨Nat.le_of_ble_eq_true rfl, Nat.le_of_ble_eq_true rfl⟩) (mV hK hZ hP hD [0, 1] rfl rfl [] 0 10 rfl rfl) rfl rfl hl.1 rfl (lv_room (Nat.le_of_ble_eq_true rfl)) dX10_isHouseTold_4 ⟨Nat.le_of_ble_eq_true rfl, Nat.le_of_ble_eq_true rfl⟩) (fun r2 u3 H locs hw4 hP hD hS => ?_)
  try dsimp only at hw4
  have hP : va_P G vwCl [(h0, oX10 b o_thrown o_taped o_size o_at o_from o_token o_value o_faultKind o_faultPlace o_lawNow o_walkSet o_oneWidow o_oneTurn o_askWorst o_mayWalk o_oftenAll o_oftenRoad o_oftenPegs), (b 1, .inl (cI, 149, .inl o_f1))] H := hP
  have hD : va_D A [(h0, oX10 b o_thrown o_taped o_size o_at o_from o_token o_value o_faultKind o_faultPlace o_lawNow o_walkSet o_oneWidow o_oneTurn o_askWorst o_mayWalk o_oftenAll o_oftenRoad o_oftenPegs), (b 1, .inl (cI, 149, .inl o_f1))] := hD
  obtain ⟨w5, w6, w7⟩ : 0 ≤ r2.toInt ∧ r2.toInt ≤ 6 ∧ r2.toInt = (o_f1 6).toInt := hw4
  refine lv_iconst (v := 1) hx hb dX10_isHouseTold_7 (by decide) ?_
  refine lv_isub hx hb dX10_isHouseTold_8 ?_
  refine lv_topi (fun v8 ev8 => ?_)
  have tv8 : v8.toInt = ((o_f1 6).toInt) - 1 := ti_sub w7 ki_1 ev8 (by omega) (by omega)
  obtain ⟨v9, ev9⟩ : ∃ y : Int64, v8.toInt64 = y := ⟨_, rfl⟩
  have tv9 : v9.toInt = ((o_f1 6).toInt) - 1 := ti_wide tv8 ev9
  refine lv_i2l (v := v9) hx hb dX10_isHouseTold_9 ev9 ?_
  refine k_i (wc := []) (wr := [(h0, oX10 b o_thrown o_taped o_size o_at o_from o_token o_value o_faultKind o_faultPlace o_lawNow o_walkSet o_oneWidow o_oneTurn o_askWorst o_mayWalk o_oftenAll o_oftenRoad o_oftenPegs), (b 1, .inl (cI, 149, .inl o_f1))]) hP hD hS hA [] [0, 1] rfl rfl rfl (by decide) (va_runS (As := [.long v1, .long 0, .long v9]) (rest := []) ⟨hx, hb, hml, hown, hts⟩ (f_X10_in l G cI cJ cZ cB cQ _ v1 a0 0 0 v9 (((o_f1 6).toInt) - 1) tv1 kl_0 tv9) (va_cwS 3 hts (gS w_1336 w_1337 w_11 w_1338) rfl rfl rfl hd_X10_in ⟨Nat.le_of_ble_eq_true rfl, Nat.le_of_ble_eq_true rfl⟩) (mS hK hZ hP hD [] rfl rfl [.long v1, .long 0, .long v9]) rfl rfl hl.1 rfl (lv_room (Nat.le_of_ble_eq_true rfl)) dX10_isHouseTold_10 ⟨Nat.le_of_ble_eq_true rfl, Nat.le_of_ble_eq_true rfl⟩) (fun r10 u11 H locs hw12 hP hD hS => ?_)
  try dsimp only at hw12
  have hP : va_P G vwCl [(h0, oX10 b o_thrown o_taped o_size o_at o_from o_token o_value o_faultKind o_faultPlace o_lawNow o_walkSet o_oneWidow o_oneTurn o_askWorst o_mayWalk o_oftenAll o_oftenRoad o_oftenPegs), (b 1, .inl (cI, 149, .inl o_f1))] H := hP
  have hD : va_D A [(h0, oX10 b o_thrown o_taped o_size o_at o_from o_token o_value o_faultKind o_faultPlace o_lawNow o_walkSet o_oneWidow o_oneTurn o_askWorst o_mayWalk o_oftenAll o_oftenRoad o_oftenPegs), (b 1, .inl (cI, 149, .inl o_f1))] := hD
  rcases hw12 with ⟨rfl, a14, a15⟩ | ⟨rfl, a16⟩
  · skip
    exact hret _ _ _ _ 1 () hP hD hS dX10_isHouseTold_13 rfl (show (((1 : Int32) = 1 ∧ 0 ≤ a0 ∧ a0 < (o_f1 6).toInt) ∨ ((1 : Int32) = 0)) from (Or.inl ⟨rfl, by omega, by omega⟩))
  · skip
    exact hret _ _ _ _ 0 () hP hD hS dX10_isHouseTold_13 rfl (show (((0 : Int32) = 1 ∧ 0 ≤ a0 ∧ a0 < (o_f1 6).toInt) ∨ ((0 : Int32) = 0)) from (Or.inr rfl))
