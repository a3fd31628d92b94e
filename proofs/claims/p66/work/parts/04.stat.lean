theorem w_1 : Jvm.Cond.initialized "WidowRoads" ∈ GW := GW_t 1 (by decide +kernel) rfl
theorem w_18 : Jvm.Cond.initialized "java/lang/Long" ∈ GW := GW_t 18 (by decide +kernel) rfl
theorem w_518 : Jvm.Cond.static ({ cls := "WidowRoads", name := "bit", desc := "(I)J" } : Jvm.MethodName) ∈ GW := GW_t 518 (by decide +kernel) rfl
theorem w_519 : Jvm.Cond.code ({ cls := "WidowRoads", name := "bit", desc := "(I)J" } : Jvm.MethodName) prog_1_method_91_code (1 : Nat) (Option.some Jvm.ClassFile.FieldType.long) ∈ GW := GW_t 519 (by decide +kernel) rfl
theorem w_620 : Jvm.Cond.static ({ cls := "WidowRoads", name := "beside", desc := "(II)I" } : Jvm.MethodName) ∈ GW := GW_t 620 (by decide +kernel) rfl
theorem w_621 : Jvm.Cond.code ({ cls := "WidowRoads", name := "beside", desc := "(II)I" } : Jvm.MethodName) prog_1_method_94_code (2 : Nat) (Option.some Jvm.ClassFile.FieldType.int) ∈ GW := GW_t 621 (by decide +kernel) rfl
theorem w_639 : Jvm.Cond.methodLink "WidowRoads" (175 : Nat) ({ cls := "java/lang/Long", name := "bitCount", desc := "(J)I" } : Jvm.MethodName) ∈ GW := GW_t 639 (by decide +kernel) rfl
theorem w_640 : Jvm.Cond.static ({ cls := "java/lang/Long", name := "bitCount", desc := "(J)I" } : Jvm.MethodName) ∈ GW := GW_t 640 (by decide +kernel) rfl
theorem w_641 : Jvm.Cond.code ({ cls := "java/lang/Long", name := "bitCount", desc := "(J)I" } : Jvm.MethodName) prog_14_method_50_code (2 : Nat) (Option.some Jvm.ClassFile.FieldType.int) ∈ GW := GW_t 641 (by decide +kernel) rfl
theorem w_642 : Jvm.Cond.constantLong "java/lang/Long" (314 : Nat) (6148914691236517205 : Int64) ∈ GW := GW_t 642 (by decide +kernel) rfl
theorem w_643 : Jvm.Cond.constantLong "java/lang/Long" (316 : Nat) (3689348814741910323 : Int64) ∈ GW := GW_t 643 (by decide +kernel) rfl
theorem w_644 : Jvm.Cond.constantLong "java/lang/Long" (318 : Nat) (1085102592571150095 : Int64) ∈ GW := GW_t 644 (by decide +kernel) rfl
theorem w_686 : Jvm.Cond.constantLong "WidowRoads" (448 : Nat) (40 : Int64) ∈ GW := GW_t 686 (by decide +kernel) rfl
theorem w_800 : Jvm.Cond.constant "java/lang/Integer" (265 : Nat) (1431655765 : Int32) ∈ GW := GW_t 800 (by decide +kernel) rfl
theorem w_801 : Jvm.Cond.constant "java/lang/Integer" (266 : Nat) (858993459 : Int32) ∈ GW := GW_t 801 (by decide +kernel) rfl
theorem w_802 : Jvm.Cond.constant "java/lang/Integer" (267 : Nat) (252645135 : Int32) ∈ GW := GW_t 802 (by decide +kernel) rfl
theorem w_909 : Jvm.Cond.methodLink "WidowRoads" (451 : Nat) ({ cls := "WidowRoads", name := "beside", desc := "(II)I" } : Jvm.MethodName) ∈ GW := GW_t 909 (by decide +kernel) rfl
theorem w_910 : Jvm.Cond.methodLink "WidowRoads" (290 : Nat) ({ cls := "WidowRoads", name := "bit", desc := "(I)J" } : Jvm.MethodName) ∈ GW := GW_t 910 (by decide +kernel) rfl
theorem w_1120 : Jvm.Cond.constant "WidowRoads" (450 : Nat) (2000000000 : Int32) ∈ GW := GW_t 1120 (by decide +kernel) rfl
theorem hd_J13_bitCount_95d88 : yJ13_bitCount_95d88.cls ≠ "java/lang/invoke/MethodHandle" ∧ yJ13_bitCount_95d88.cls ≠ "java/lang/invoke/VarHandle" ∧ (parseMethodDescriptor yJ13_bitCount_95d88.desc).map (fun d => d.parameters.length) = some 1 := by decide +kernel
theorem hd_X9_beside : yX9_beside.cls ≠ "java/lang/invoke/MethodHandle" ∧ yX9_beside.cls ≠ "java/lang/invoke/VarHandle" ∧ (parseMethodDescriptor yX9_beside.desc).map (fun d => d.parameters.length) = some 2 := by decide +kernel
theorem hd_X9_bit : yX9_bit.cls ≠ "java/lang/invoke/MethodHandle" ∧ yX9_bit.cls ≠ "java/lang/invoke/VarHandle" ∧ (parseMethodDescriptor yX9_bit.desc).map (fun d => d.parameters.length) = some 1 := by decide +kernel
theorem ki_m1 : ((-1) : Int32).toInt = (-1) := by decide
theorem ki_0 : (0 : Int32).toInt = 0 := by decide
theorem ki_1 : (1 : Int32).toInt = 1 := by decide
theorem ki_4 : (4 : Int32).toInt = 4 := by decide
theorem ki_7 : (7 : Int32).toInt = 7 := by decide
theorem ki_2000000000 : (2000000000 : Int32).toInt = 2000000000 := by decide
theorem kl_0 : (0 : Int64).toInt = 0 := by decide
theorem kl_1 : (1 : Int64).toInt = 1 := by decide
theorem kl_40 : (40 : Int64).toInt = 40 := by decide
theorem dJ13_bitCount_95d88_0 : decode cJ13_bitCount_95d88 0 = .ok (.lload_n 0, 1) := by decide +kernel
theorem dJ13_bitCount_95d88_1 : decode cJ13_bitCount_95d88 1 = .ok (.lload_n 0, 1) := by decide +kernel
theorem dJ13_bitCount_95d88_2 : decode cJ13_bitCount_95d88 2 = .ok (.iconst 1, 1) := by decide +kernel
theorem dJ13_bitCount_95d88_3 : decode cJ13_bitCount_95d88 3 = .ok (.lushr, 1) := by decide +kernel
theorem dJ13_bitCount_95d88_4 : decode cJ13_bitCount_95d88 4 = .ok (.ldc2_w 314, 3) := by decide +kernel
theorem dJ13_bitCount_95d88_7 : decode cJ13_bitCount_95d88 7 = .ok (.land, 1) := by decide +kernel
theorem dJ13_bitCount_95d88_8 : decode cJ13_bitCount_95d88 8 = .ok (.lsub, 1) := by decide +kernel
theorem dJ13_bitCount_95d88_9 : decode cJ13_bitCount_95d88 9 = .ok (.lstore_n 0, 1) := by decide +kernel
theorem dJ13_bitCount_95d88_10 : decode cJ13_bitCount_95d88 10 = .ok (.lload_n 0, 1) := by decide +kernel
theorem dJ13_bitCount_95d88_11 : decode cJ13_bitCount_95d88 11 = .ok (.ldc2_w 316, 3) := by decide +kernel
theorem dJ13_bitCount_95d88_14 : decode cJ13_bitCount_95d88 14 = .ok (.land, 1) := by decide +kernel
theorem dJ13_bitCount_95d88_15 : decode cJ13_bitCount_95d88 15 = .ok (.lload_n 0, 1) := by decide +kernel
theorem dJ13_bitCount_95d88_16 : decode cJ13_bitCount_95d88 16 = .ok (.iconst 2, 1) := by decide +kernel
theorem dJ13_bitCount_95d88_17 : decode cJ13_bitCount_95d88 17 = .ok (.lushr, 1) := by decide +kernel
theorem dJ13_bitCount_95d88_18 : decode cJ13_bitCount_95d88 18 = .ok (.ldc2_w 316, 3) := by decide +kernel
theorem dJ13_bitCount_95d88_21 : decode cJ13_bitCount_95d88 21 = .ok (.land, 1) := by decide +kernel
theorem dJ13_bitCount_95d88_22 : decode cJ13_bitCount_95d88 22 = .ok (.ladd, 1) := by decide +kernel
theorem dJ13_bitCount_95d88_23 : decode cJ13_bitCount_95d88 23 = .ok (.lstore_n 0, 1) := by decide +kernel
theorem dJ13_bitCount_95d88_24 : decode cJ13_bitCount_95d88 24 = .ok (.lload_n 0, 1) := by decide +kernel
theorem dJ13_bitCount_95d88_25 : decode cJ13_bitCount_95d88 25 = .ok (.lload_n 0, 1) := by decide +kernel
theorem dJ13_bitCount_95d88_26 : decode cJ13_bitCount_95d88 26 = .ok (.iconst 4, 1) := by decide +kernel
theorem dJ13_bitCount_95d88_27 : decode cJ13_bitCount_95d88 27 = .ok (.lushr, 1) := by decide +kernel
theorem dJ13_bitCount_95d88_28 : decode cJ13_bitCount_95d88 28 = .ok (.ladd, 1) := by decide +kernel
theorem dJ13_bitCount_95d88_29 : decode cJ13_bitCount_95d88 29 = .ok (.ldc2_w 318, 3) := by decide +kernel
theorem dJ13_bitCount_95d88_32 : decode cJ13_bitCount_95d88 32 = .ok (.land, 1) := by decide +kernel
theorem dJ13_bitCount_95d88_33 : decode cJ13_bitCount_95d88 33 = .ok (.lstore_n 0, 1) := by decide +kernel
theorem dJ13_bitCount_95d88_34 : decode cJ13_bitCount_95d88 34 = .ok (.lload_n 0, 1) := by decide +kernel
theorem dJ13_bitCount_95d88_35 : decode cJ13_bitCount_95d88 35 = .ok (.lload_n 0, 1) := by decide +kernel
theorem dJ13_bitCount_95d88_36 : decode cJ13_bitCount_95d88 36 = .ok (.bipush 8, 2) := by decide +kernel
theorem dJ13_bitCount_95d88_38 : decode cJ13_bitCount_95d88 38 = .ok (.lushr, 1) := by decide +kernel
theorem dJ13_bitCount_95d88_39 : decode cJ13_bitCount_95d88 39 = .ok (.ladd, 1) := by decide +kernel
theorem dJ13_bitCount_95d88_40 : decode cJ13_bitCount_95d88 40 = .ok (.lstore_n 0, 1) := by decide +kernel
theorem dJ13_bitCount_95d88_41 : decode cJ13_bitCount_95d88 41 = .ok (.lload_n 0, 1) := by decide +kernel
theorem dJ13_bitCount_95d88_42 : decode cJ13_bitCount_95d88 42 = .ok (.lload_n 0, 1) := by decide +kernel
theorem dJ13_bitCount_95d88_43 : decode cJ13_bitCount_95d88 43 = .ok (.bipush 16, 2) := by decide +kernel
theorem dJ13_bitCount_95d88_45 : decode cJ13_bitCount_95d88 45 = .ok (.lushr, 1) := by decide +kernel
theorem dJ13_bitCount_95d88_46 : decode cJ13_bitCount_95d88 46 = .ok (.ladd, 1) := by decide +kernel
theorem dJ13_bitCount_95d88_47 : decode cJ13_bitCount_95d88 47 = .ok (.lstore_n 0, 1) := by decide +kernel
theorem dJ13_bitCount_95d88_48 : decode cJ13_bitCount_95d88 48 = .ok (.lload_n 0, 1) := by decide +kernel
theorem dJ13_bitCount_95d88_49 : decode cJ13_bitCount_95d88 49 = .ok (.lload_n 0, 1) := by decide +kernel
theorem dJ13_bitCount_95d88_50 : decode cJ13_bitCount_95d88 50 = .ok (.bipush 32, 2) := by decide +kernel
theorem dJ13_bitCount_95d88_52 : decode cJ13_bitCount_95d88 52 = .ok (.lushr, 1) := by decide +kernel
theorem dJ13_bitCount_95d88_53 : decode cJ13_bitCount_95d88 53 = .ok (.ladd, 1) := by decide +kernel
theorem dJ13_bitCount_95d88_54 : decode cJ13_bitCount_95d88 54 = .ok (.lstore_n 0, 1) := by decide +kernel
theorem dJ13_bitCount_95d88_55 : decode cJ13_bitCount_95d88 55 = .ok (.lload_n 0, 1) := by decide +kernel
theorem dJ13_bitCount_95d88_56 : decode cJ13_bitCount_95d88 56 = .ok (.l2i, 1) := by decide +kernel
theorem dJ13_bitCount_95d88_57 : decode cJ13_bitCount_95d88 57 = .ok (.bipush 127, 2) := by decide +kernel
theorem dJ13_bitCount_95d88_59 : decode cJ13_bitCount_95d88 59 = .ok (.iand, 1) := by decide +kernel
theorem dJ13_bitCount_95d88_60 : decode cJ13_bitCount_95d88 60 = .ok (.ireturn, 1) := by decide +kernel
theorem dJ6_bitCount_0f7a4_0 : decode cJ6_bitCount_0f7a4 0 = .ok (.iload_n 0, 1) := by decide +kernel
theorem dJ6_bitCount_0f7a4_1 : decode cJ6_bitCount_0f7a4 1 = .ok (.iload_n 0, 1) := by decide +kernel
theorem dJ6_bitCount_0f7a4_2 : decode cJ6_bitCount_0f7a4 2 = .ok (.iconst 1, 1) := by decide +kernel
theorem dJ6_bitCount_0f7a4_3 : decode cJ6_bitCount_0f7a4 3 = .ok (.iushr, 1) := by decide +kernel
theorem dJ6_bitCount_0f7a4_4 : decode cJ6_bitCount_0f7a4 4 = .ok (.ldc_w 265, 3) := by decide +kernel
theorem dJ6_bitCount_0f7a4_7 : decode cJ6_bitCount_0f7a4 7 = .ok (.iand, 1) := by decide +kernel
theorem dJ6_bitCount_0f7a4_8 : decode cJ6_bitCount_0f7a4 8 = .ok (.isub, 1) := by decide +kernel
theorem dJ6_bitCount_0f7a4_9 : decode cJ6_bitCount_0f7a4 9 = .ok (.istore_n 0, 1) := by decide +kernel
theorem dJ6_bitCount_0f7a4_10 : decode cJ6_bitCount_0f7a4 10 = .ok (.iload_n 0, 1) := by decide +kernel
theorem dJ6_bitCount_0f7a4_11 : decode cJ6_bitCount_0f7a4 11 = .ok (.ldc_w 266, 3) := by decide +kernel
theorem dJ6_bitCount_0f7a4_14 : decode cJ6_bitCount_0f7a4 14 = .ok (.iand, 1) := by decide +kernel
theorem dJ6_bitCount_0f7a4_15 : decode cJ6_bitCount_0f7a4 15 = .ok (.iload_n 0, 1) := by decide +kernel
theorem dJ6_bitCount_0f7a4_16 : decode cJ6_bitCount_0f7a4 16 = .ok (.iconst 2, 1) := by decide +kernel
theorem dJ6_bitCount_0f7a4_17 : decode cJ6_bitCount_0f7a4 17 = .ok (.iushr, 1) := by decide +kernel
theorem dJ6_bitCount_0f7a4_18 : decode cJ6_bitCount_0f7a4 18 = .ok (.ldc_w 266, 3) := by decide +kernel
theorem dJ6_bitCount_0f7a4_21 : decode cJ6_bitCount_0f7a4 21 = .ok (.iand, 1) := by decide +kernel
theorem dJ6_bitCount_0f7a4_22 : decode cJ6_bitCount_0f7a4 22 = .ok (.iadd, 1) := by decide +kernel
theorem dJ6_bitCount_0f7a4_23 : decode cJ6_bitCount_0f7a4 23 = .ok (.istore_n 0, 1) := by decide +kernel
theorem dJ6_bitCount_0f7a4_24 : decode cJ6_bitCount_0f7a4 24 = .ok (.iload_n 0, 1) := by decide +kernel
theorem dJ6_bitCount_0f7a4_25 : decode cJ6_bitCount_0f7a4 25 = .ok (.iload_n 0, 1) := by decide +kernel
theorem dJ6_bitCount_0f7a4_26 : decode cJ6_bitCount_0f7a4 26 = .ok (.iconst 4, 1) := by decide +kernel
theorem dJ6_bitCount_0f7a4_27 : decode cJ6_bitCount_0f7a4 27 = .ok (.iushr, 1) := by decide +kernel
theorem dJ6_bitCount_0f7a4_28 : decode cJ6_bitCount_0f7a4 28 = .ok (.iadd, 1) := by decide +kernel
theorem dJ6_bitCount_0f7a4_29 : decode cJ6_bitCount_0f7a4 29 = .ok (.ldc_w 267, 3) := by decide +kernel
theorem dJ6_bitCount_0f7a4_32 : decode cJ6_bitCount_0f7a4 32 = .ok (.iand, 1) := by decide +kernel
theorem dJ6_bitCount_0f7a4_33 : decode cJ6_bitCount_0f7a4 33 = .ok (.istore_n 0, 1) := by decide +kernel
theorem dJ6_bitCount_0f7a4_34 : decode cJ6_bitCount_0f7a4 34 = .ok (.iload_n 0, 1) := by decide +kernel
theorem dJ6_bitCount_0f7a4_35 : decode cJ6_bitCount_0f7a4 35 = .ok (.iload_n 0, 1) := by decide +kernel
theorem dJ6_bitCount_0f7a4_36 : decode cJ6_bitCount_0f7a4 36 = .ok (.bipush 8, 2) := by decide +kernel
theorem dJ6_bitCount_0f7a4_38 : decode cJ6_bitCount_0f7a4 38 = .ok (.iushr, 1) := by decide +kernel
theorem dJ6_bitCount_0f7a4_39 : decode cJ6_bitCount_0f7a4 39 = .ok (.iadd, 1) := by decide +kernel
theorem dJ6_bitCount_0f7a4_40 : decode cJ6_bitCount_0f7a4 40 = .ok (.istore_n 0, 1) := by decide +kernel
theorem dJ6_bitCount_0f7a4_41 : decode cJ6_bitCount_0f7a4 41 = .ok (.iload_n 0, 1) := by decide +kernel
theorem dJ6_bitCount_0f7a4_42 : decode cJ6_bitCount_0f7a4 42 = .ok (.iload_n 0, 1) := by decide +kernel
theorem dJ6_bitCount_0f7a4_43 : decode cJ6_bitCount_0f7a4 43 = .ok (.bipush 16, 2) := by decide +kernel
theorem dJ6_bitCount_0f7a4_45 : decode cJ6_bitCount_0f7a4 45 = .ok (.iushr, 1) := by decide +kernel
theorem dJ6_bitCount_0f7a4_46 : decode cJ6_bitCount_0f7a4 46 = .ok (.iadd, 1) := by decide +kernel
theorem dJ6_bitCount_0f7a4_47 : decode cJ6_bitCount_0f7a4 47 = .ok (.istore_n 0, 1) := by decide +kernel
theorem dJ6_bitCount_0f7a4_48 : decode cJ6_bitCount_0f7a4 48 = .ok (.iload_n 0, 1) := by decide +kernel
theorem dJ6_bitCount_0f7a4_49 : decode cJ6_bitCount_0f7a4 49 = .ok (.bipush 63, 2) := by decide +kernel
theorem dJ6_bitCount_0f7a4_51 : decode cJ6_bitCount_0f7a4 51 = .ok (.iand, 1) := by decide +kernel
theorem dJ6_bitCount_0f7a4_52 : decode cJ6_bitCount_0f7a4 52 = .ok (.ireturn, 1) := by decide +kernel
theorem dX9_around_0 : decode cX9_around 0 = .ok (.lconst 0, 1) := by decide +kernel
theorem dX9_around_1 : decode cX9_around 1 = .ok (.lstore_n 1, 1) := by decide +kernel
theorem dX9_around_2 : decode cX9_around 2 = .ok (.iconst 0, 1) := by decide +kernel
theorem dX9_around_3 : decode cX9_around 3 = .ok (.istore_n 3, 1) := by decide +kernel
theorem dX9_around_4 : decode cX9_around 4 = .ok (.iload_n 3, 1) := by decide +kernel
theorem dX9_around_5 : decode cX9_around 5 = .ok (.iconst 4, 1) := by decide +kernel
theorem dX9_around_6 : decode cX9_around 6 = .ok (.if_icmp .ge 30, 3) := by decide +kernel
theorem dX9_around_9 : decode cX9_around 9 = .ok (.iload_n 0, 1) := by decide +kernel
theorem dX9_around_10 : decode cX9_around 10 = .ok (.iload_n 3, 1) := by decide +kernel
theorem dX9_around_11 : decode cX9_around 11 = .ok (.invokestatic 451, 3) := by decide +kernel
theorem dX9_around_14 : decode cX9_around 14 = .ok (.istore 4, 2) := by decide +kernel
theorem dX9_around_16 : decode cX9_around 16 = .ok (.iload 4, 2) := by decide +kernel
theorem dX9_around_18 : decode cX9_around 18 = .ok (.iconst (-1), 1) := by decide +kernel
theorem dX9_around_19 : decode cX9_around 19 = .ok (.if_icmp .eq 11, 3) := by decide +kernel
theorem dX9_around_22 : decode cX9_around 22 = .ok (.lload_n 1, 1) := by decide +kernel
theorem dX9_around_23 : decode cX9_around 23 = .ok (.iload 4, 2) := by decide +kernel
theorem dX9_around_25 : decode cX9_around 25 = .ok (.invokestatic 290, 3) := by decide +kernel
theorem dX9_around_28 : decode cX9_around 28 = .ok (.lor, 1) := by decide +kernel
theorem dX9_around_29 : decode cX9_around 29 = .ok (.lstore_n 1, 1) := by decide +kernel
theorem dX9_around_30 : decode cX9_around 30 = .ok (.iinc 3 1, 3) := by decide +kernel
theorem dX9_around_33 : decode cX9_around 33 = .ok (.goto (-29), 3) := by decide +kernel
theorem dX9_around_36 : decode cX9_around 36 = .ok (.lload_n 1, 1) := by decide +kernel
theorem dX9_around_37 : decode cX9_around 37 = .ok (.lreturn, 1) := by decide +kernel
theorem dX9_beside_0 : decode cX9_beside 0 = .ok (.iload_n 1, 1) := by decide +kernel
theorem dX9_beside_1 : decode cX9_beside 1 = .ok (.tableswitch 76 0 2 #[27, 42, 59], 27) := by decide +kernel
theorem dX9_beside_28 : decode cX9_beside 28 = .ok (.iload_n 0, 1) := by decide +kernel
theorem dX9_beside_29 : decode cX9_beside 29 = .ok (.bipush 7, 2) := by decide +kernel
theorem dX9_beside_31 : decode cX9_beside 31 = .ok (.iand, 1) := by decide +kernel
theorem dX9_beside_32 : decode cX9_beside 32 = .ok (.ifCond .ne 7, 3) := by decide +kernel
theorem dX9_beside_35 : decode cX9_beside 35 = .ok (.iconst (-1), 1) := by decide +kernel
theorem dX9_beside_36 : decode cX9_beside 36 = .ok (.goto 6, 3) := by decide +kernel
theorem dX9_beside_39 : decode cX9_beside 39 = .ok (.iload_n 0, 1) := by decide +kernel
theorem dX9_beside_40 : decode cX9_beside 40 = .ok (.iconst 1, 1) := by decide +kernel
theorem dX9_beside_41 : decode cX9_beside 41 = .ok (.isub, 1) := by decide +kernel
theorem dX9_beside_42 : decode cX9_beside 42 = .ok (.ireturn, 1) := by decide +kernel
theorem dX9_beside_43 : decode cX9_beside 43 = .ok (.iload_n 0, 1) := by decide +kernel
theorem dX9_beside_44 : decode cX9_beside 44 = .ok (.iconst 3, 1) := by decide +kernel
theorem dX9_beside_45 : decode cX9_beside 45 = .ok (.ishr, 1) := by decide +kernel
theorem dX9_beside_46 : decode cX9_beside 46 = .ok (.bipush 7, 2) := by decide +kernel
theorem dX9_beside_48 : decode cX9_beside 48 = .ok (.if_icmp .ne 7, 3) := by decide +kernel
theorem dX9_beside_51 : decode cX9_beside 51 = .ok (.iconst (-1), 1) := by decide +kernel
theorem dX9_beside_52 : decode cX9_beside 52 = .ok (.goto 7, 3) := by decide +kernel
theorem dX9_beside_55 : decode cX9_beside 55 = .ok (.iload_n 0, 1) := by decide +kernel
theorem dX9_beside_56 : decode cX9_beside 56 = .ok (.bipush 8, 2) := by decide +kernel
theorem dX9_beside_58 : decode cX9_beside 58 = .ok (.iadd, 1) := by decide +kernel
theorem dX9_beside_59 : decode cX9_beside 59 = .ok (.ireturn, 1) := by decide +kernel
theorem dX9_beside_60 : decode cX9_beside 60 = .ok (.iload_n 0, 1) := by decide +kernel
theorem dX9_beside_61 : decode cX9_beside 61 = .ok (.bipush 7, 2) := by decide +kernel
theorem dX9_beside_63 : decode cX9_beside 63 = .ok (.iand, 1) := by decide +kernel
theorem dX9_beside_64 : decode cX9_beside 64 = .ok (.bipush 7, 2) := by decide +kernel
theorem dX9_beside_66 : decode cX9_beside 66 = .ok (.if_icmp .ne 7, 3) := by decide +kernel
theorem dX9_beside_69 : decode cX9_beside 69 = .ok (.iconst (-1), 1) := by decide +kernel
theorem dX9_beside_70 : decode cX9_beside 70 = .ok (.goto 6, 3) := by decide +kernel
theorem dX9_beside_73 : decode cX9_beside 73 = .ok (.iload_n 0, 1) := by decide +kernel
theorem dX9_beside_74 : decode cX9_beside 74 = .ok (.iconst 1, 1) := by decide +kernel
theorem dX9_beside_75 : decode cX9_beside 75 = .ok (.iadd, 1) := by decide +kernel
theorem dX9_beside_76 : decode cX9_beside 76 = .ok (.ireturn, 1) := by decide +kernel
theorem dX9_beside_77 : decode cX9_beside 77 = .ok (.iload_n 0, 1) := by decide +kernel
theorem dX9_beside_78 : decode cX9_beside 78 = .ok (.iconst 3, 1) := by decide +kernel
theorem dX9_beside_79 : decode cX9_beside 79 = .ok (.ishr, 1) := by decide +kernel
theorem dX9_beside_80 : decode cX9_beside 80 = .ok (.ifCond .ne 7, 3) := by decide +kernel
theorem dX9_beside_83 : decode cX9_beside 83 = .ok (.iconst (-1), 1) := by decide +kernel
theorem dX9_beside_84 : decode cX9_beside 84 = .ok (.goto 7, 3) := by decide +kernel
theorem dX9_beside_87 : decode cX9_beside 87 = .ok (.iload_n 0, 1) := by decide +kernel
theorem dX9_beside_88 : decode cX9_beside 88 = .ok (.bipush 8, 2) := by decide +kernel
theorem dX9_beside_90 : decode cX9_beside 90 = .ok (.isub, 1) := by decide +kernel
theorem dX9_beside_91 : decode cX9_beside 91 = .ok (.ireturn, 1) := by decide +kernel
theorem dX9_bit_0 : decode cX9_bit 0 = .ok (.lconst 1, 1) := by decide +kernel
theorem dX9_bit_1 : decode cX9_bit 1 = .ok (.iload_n 0, 1) := by decide +kernel
theorem dX9_bit_2 : decode cX9_bit 2 = .ok (.lshl, 1) := by decide +kernel
theorem dX9_bit_3 : decode cX9_bit 3 = .ok (.lreturn, 1) := by decide +kernel
theorem dX9_cellOf_0 : decode cX9_cellOf 0 = .ok (.iload_n 0, 1) := by decide +kernel
theorem dX9_cellOf_1 : decode cX9_cellOf 1 = .ok (.iconst (-1), 1) := by decide +kernel
theorem dX9_cellOf_2 : decode cX9_cellOf 2 = .ok (.if_icmp .ne 7, 3) := by decide +kernel
theorem dX9_cellOf_5 : decode cX9_cellOf 5 = .ok (.iconst (-1), 1) := by decide +kernel
theorem dX9_cellOf_6 : decode cX9_cellOf 6 = .ok (.goto 14, 3) := by decide +kernel
theorem dX9_cellOf_9 : decode cX9_cellOf 9 = .ok (.bipush 10, 2) := by decide +kernel
theorem dX9_cellOf_11 : decode cX9_cellOf 11 = .ok (.iload_n 0, 1) := by decide +kernel
theorem dX9_cellOf_12 : decode cX9_cellOf 12 = .ok (.iconst 3, 1) := by decide +kernel
theorem dX9_cellOf_13 : decode cX9_cellOf 13 = .ok (.ishr, 1) := by decide +kernel
theorem dX9_cellOf_14 : decode cX9_cellOf 14 = .ok (.imul, 1) := by decide +kernel
theorem dX9_cellOf_15 : decode cX9_cellOf 15 = .ok (.iload_n 0, 1) := by decide +kernel
theorem dX9_cellOf_16 : decode cX9_cellOf 16 = .ok (.bipush 7, 2) := by decide +kernel
theorem dX9_cellOf_18 : decode cX9_cellOf 18 = .ok (.iand, 1) := by decide +kernel
theorem dX9_cellOf_19 : decode cX9_cellOf 19 = .ok (.iadd, 1) := by decide +kernel
theorem dX9_cellOf_20 : decode cX9_cellOf 20 = .ok (.ireturn, 1) := by decide +kernel
theorem dX9_has_0 : decode cX9_has 0 = .ok (.lload_n 0, 1) := by decide +kernel
theorem dX9_has_1 : decode cX9_has 1 = .ok (.iload_n 2, 1) := by decide +kernel
theorem dX9_has_2 : decode cX9_has 2 = .ok (.lushr, 1) := by decide +kernel
theorem dX9_has_3 : decode cX9_has 3 = .ok (.lconst 1, 1) := by decide +kernel
theorem dX9_has_4 : decode cX9_has 4 = .ok (.land, 1) := by decide +kernel
theorem dX9_has_5 : decode cX9_has 5 = .ok (.lconst 1, 1) := by decide +kernel
theorem dX9_has_6 : decode cX9_has 6 = .ok (.lcmp, 1) := by decide +kernel
theorem dX9_has_7 : decode cX9_has 7 = .ok (.ifCond .ne 7, 3) := by decide +kernel
theorem dX9_has_10 : decode cX9_has 10 = .ok (.iconst 1, 1) := by decide +kernel
theorem dX9_has_11 : decode cX9_has 11 = .ok (.goto 4, 3) := by decide +kernel
theorem dX9_has_14 : decode cX9_has 14 = .ok (.iconst 0, 1) := by decide +kernel
theorem dX9_has_15 : decode cX9_has 15 = .ok (.ireturn, 1) := by decide +kernel
theorem dX9_isPart_0 : decode cX9_isPart 0 = .ok (.iload_n 0, 1) := by decide +kernel
theorem dX9_isPart_1 : decode cX9_isPart 1 = .ok (.ifCond .eq 8, 3) := by decide +kernel
theorem dX9_isPart_4 : decode cX9_isPart 4 = .ok (.iload_n 0, 1) := by decide +kernel
theorem dX9_isPart_5 : decode cX9_isPart 5 = .ok (.iconst 1, 1) := by decide +kernel
theorem dX9_isPart_6 : decode cX9_isPart 6 = .ok (.if_icmp .ne 7, 3) := by decide +kernel
theorem dX9_isPart_9 : decode cX9_isPart 9 = .ok (.iconst 1, 1) := by decide +kernel
theorem dX9_isPart_10 : decode cX9_isPart 10 = .ok (.goto 4, 3) := by decide +kernel
theorem dX9_isPart_13 : decode cX9_isPart 13 = .ok (.iconst 0, 1) := by decide +kernel
theorem dX9_isPart_14 : decode cX9_isPart 14 = .ok (.ireturn, 1) := by decide +kernel
theorem dX9_isSeed_0 : decode cX9_isSeed 0 = .ok (.iload_n 0, 1) := by decide +kernel
theorem dX9_isSeed_1 : decode cX9_isSeed 1 = .ok (.ifCond .lt 14, 3) := by decide +kernel
theorem dX9_isSeed_4 : decode cX9_isSeed 4 = .ok (.iload_n 0, 1) := by decide +kernel
theorem dX9_isSeed_5 : decode cX9_isSeed 5 = .ok (.ldc_w 450, 3) := by decide +kernel
theorem dX9_isSeed_8 : decode cX9_isSeed 8 = .ok (.if_icmp .gt 7, 3) := by decide +kernel
theorem dX9_isSeed_11 : decode cX9_isSeed 11 = .ok (.iconst 1, 1) := by decide +kernel
theorem dX9_isSeed_12 : decode cX9_isSeed 12 = .ok (.goto 4, 3) := by decide +kernel
theorem dX9_isSeed_15 : decode cX9_isSeed 15 = .ok (.iconst 0, 1) := by decide +kernel
theorem dX9_isSeed_16 : decode cX9_isSeed 16 = .ok (.ireturn, 1) := by decide +kernel
theorem dX9_isSlot_0 : decode cX9_isSlot 0 = .ok (.iload_n 0, 1) := by decide +kernel
theorem dX9_isSlot_1 : decode cX9_isSlot 1 = .ok (.ifCond .lt 12, 3) := by decide +kernel
theorem dX9_isSlot_4 : decode cX9_isSlot 4 = .ok (.iload_n 0, 1) := by decide +kernel
theorem dX9_isSlot_5 : decode cX9_isSlot 5 = .ok (.iconst 4, 1) := by decide +kernel
theorem dX9_isSlot_6 : decode cX9_isSlot 6 = .ok (.if_icmp .ge 7, 3) := by decide +kernel
theorem dX9_isSlot_9 : decode cX9_isSlot 9 = .ok (.iconst 1, 1) := by decide +kernel
theorem dX9_isSlot_10 : decode cX9_isSlot 10 = .ok (.goto 4, 3) := by decide +kernel
theorem dX9_isSlot_13 : decode cX9_isSlot 13 = .ok (.iconst 0, 1) := by decide +kernel
theorem dX9_isSlot_14 : decode cX9_isSlot 14 = .ok (.ireturn, 1) := by decide +kernel
theorem dX9_isStep_0 : decode cX9_isStep 0 = .ok (.lload_n 0, 1) := by decide +kernel
theorem dX9_isStep_1 : decode cX9_isStep 1 = .ok (.lconst 0, 1) := by decide +kernel
theorem dX9_isStep_2 : decode cX9_isStep 2 = .ok (.lcmp, 1) := by decide +kernel
theorem dX9_isStep_3 : decode cX9_isStep 3 = .ok (.ifCond .lt 15, 3) := by decide +kernel
theorem dX9_isStep_6 : decode cX9_isStep 6 = .ok (.lload_n 0, 1) := by decide +kernel
theorem dX9_isStep_7 : decode cX9_isStep 7 = .ok (.ldc2_w 448, 3) := by decide +kernel
theorem dX9_isStep_10 : decode cX9_isStep 10 = .ok (.lcmp, 1) := by decide +kernel
theorem dX9_isStep_11 : decode cX9_isStep 11 = .ok (.ifCond .gt 7, 3) := by decide +kernel
theorem dX9_isStep_14 : decode cX9_isStep 14 = .ok (.iconst 1, 1) := by decide +kernel
theorem dX9_isStep_15 : decode cX9_isStep 15 = .ok (.goto 4, 3) := by decide +kernel
theorem dX9_isStep_18 : decode cX9_isStep 18 = .ok (.iconst 0, 1) := by decide +kernel
theorem dX9_isStep_19 : decode cX9_isStep 19 = .ok (.ireturn, 1) := by decide +kernel
theorem dX9_leastOf_0 : decode cX9_leastOf 0 = .ok (.lload_n 0, 1) := by decide +kernel
theorem dX9_leastOf_1 : decode cX9_leastOf 1 = .ok (.lload_n 0, 1) := by decide +kernel
theorem dX9_leastOf_2 : decode cX9_leastOf 2 = .ok (.lneg, 1) := by decide +kernel
theorem dX9_leastOf_3 : decode cX9_leastOf 3 = .ok (.land, 1) := by decide +kernel
theorem dX9_leastOf_4 : decode cX9_leastOf 4 = .ok (.lconst 1, 1) := by decide +kernel
theorem dX9_leastOf_5 : decode cX9_leastOf 5 = .ok (.lsub, 1) := by decide +kernel
theorem dX9_leastOf_6 : decode cX9_leastOf 6 = .ok (.invokestatic 175, 3) := by decide +kernel
theorem dX9_leastOf_9 : decode cX9_leastOf 9 = .ok (.ireturn, 1) := by decide +kernel
theorem dX9_oneIf_0 : decode cX9_oneIf 0 = .ok (.iload_n 0, 1) := by decide +kernel
theorem dX9_oneIf_1 : decode cX9_oneIf 1 = .ok (.ifCond .eq 7, 3) := by decide +kernel
theorem dX9_oneIf_4 : decode cX9_oneIf 4 = .ok (.iconst 1, 1) := by decide +kernel
theorem dX9_oneIf_5 : decode cX9_oneIf 5 = .ok (.goto 4, 3) := by decide +kernel
theorem dX9_oneIf_8 : decode cX9_oneIf 8 = .ok (.iconst 0, 1) := by decide +kernel
theorem dX9_oneIf_9 : decode cX9_oneIf 9 = .ok (.ireturn, 1) := by decide +kernel
set_option maxHeartbeats 4000000 in
set_option maxRecDepth 100000 in
theorem f_X9_isStep (l : Launch) (G : va_G) (cI cJ cZ cB cQ : ClassId) (sz : Nat) (p0 : Int64) (a0 : Int) (h0 : p0.toInt = a0) : CI l yX9_isStep (wl_ yX9_isStep cX9_isStep 2 (some .boolean)) ({ frames := 0, cells := 0, slots := 0, locals := 0 } : Room) G (TY cI cJ cZ cB cQ) [.long p0] [] sz (fun (r : Int32) (u : Unit) => ((r = 1 ∧ 0 ≤ a0 ∧ a0 ≤ 40) ∨ (r = 0 ∧ (a0 < 0 ∨ 40 < a0)))) (fun _ : Unit => []) 0 0 := by
  refine CI.goz (cc := cX9_isStep) (maxL := 2) (ret := (some .boolean)) (by decide) rfl (Nat.le_of_ble_eq_true rfl) ?_
  intro p e s m below meth c A ls Q hBd hret
  obtain ⟨hx, hb, hr, hml, hts, hown, hlk, hnm, hP, hK, hD, hA, hZ, hl⟩ := hBd
  have hown : s.vm.findClass RX9 = some m.cls := hown
  have hl : lv_has ls 2 [(0, .long p0)] := hl
  have hS : va_S A s.heap s.heap [] := va_S.rf
  refine lv_lload_n hx hb dX9_isStep_0 rfl (lv_at hl 0 rfl) ?_
  refine lv_lconst (v := 0) hx hb dX9_isStep_1 (by decide) ?_
  refine W.lcmp hx hb dX9_isStep_2 ?_
  refine lv_if_lt (tgt := 18) hx hb dX9_isStep_3 (by decide) (fun c1 => ?_) (fun c1 => ?_)
  · have c1 := c_lt h0 kl_0 c1
    refine lv_iconst (v := 0) hx hb dX9_isStep_18 (by decide) ?_
    exact hret _ _ _ _ 0 () hP hD hS dX9_isStep_19 rfl (show (((0 : Int32) = 1 ∧ 0 ≤ a0 ∧ a0 ≤ 40) ∨ ((0 : Int32) = 0 ∧ (a0 < 0 ∨ 40 < a0))) from (Or.inr ⟨rfl, by omega⟩))
  · have c1 := c_nlt h0 kl_0 c1
    refine lv_lload_n hx hb dX9_isStep_6 rfl (lv_at hl 0 rfl) ?_
    refine lv_ldc2 (v := 40) hx hb hown (hts _ w_686) dX9_isStep_7 ?_
    refine W.lcmp hx hb dX9_isStep_10 ?_
    refine lv_if_gt (tgt := 18) hx hb dX9_isStep_11 (by decide) (fun c2 => ?_) (fun c2 => ?_)
    · have c2 := c_gt h0 kl_40 c2
      refine lv_iconst (v := 0) hx hb dX9_isStep_18 (by decide) ?_
      exact hret _ _ _ _ 0 () hP hD hS dX9_isStep_19 rfl (show (((0 : Int32) = 1 ∧ 0 ≤ a0 ∧ a0 ≤ 40) ∨ ((0 : Int32) = 0 ∧ (a0 < 0 ∨ 40 < a0))) from (Or.inr ⟨rfl, by omega⟩))
    · have c2 := c_ngt h0 kl_40 c2
      refine lv_iconst (v := 1) hx hb dX9_isStep_14 (by decide) ?_
      refine lv_goto (tgt := 19) hx hb dX9_isStep_15 (by decide) ?_
      exact hret _ _ _ _ 1 () hP hD hS dX9_isStep_19 rfl (show (((1 : Int32) = 1 ∧ 0 ≤ a0 ∧ a0 ≤ 40) ∨ ((1 : Int32) = 0 ∧ (a0 < 0 ∨ 40 < a0))) from (Or.inl ⟨rfl, by omega, by omega⟩))
set_option maxHeartbeats 4000000 in
set_option maxRecDepth 100000 in
theorem f_X9_isSlot (l : Launch) (G : va_G) (cI cJ cZ cB cQ : ClassId) (sz : Nat) (p0 : Int32) (a0 : Int) (h0 : p0.toInt = a0) : CI l yX9_isSlot (wl_ yX9_isSlot cX9_isSlot 1 (some .boolean)) ({ frames := 0, cells := 0, slots := 0, locals := 0 } : Room) G (TY cI cJ cZ cB cQ) [.int p0] [] sz (fun (r : Int32) (u : Unit) => ((r = 1 ∧ 0 ≤ a0 ∧ a0 ≤ 3) ∨ (r = 0 ∧ (a0 < 0 ∨ 3 < a0)))) (fun _ : Unit => []) 0 0 := by
  refine CI.goz (cc := cX9_isSlot) (maxL := 1) (ret := (some .boolean)) (by decide) rfl (Nat.le_of_ble_eq_true rfl) ?_
  intro p e s m below meth c A ls Q hBd hret
  obtain ⟨hx, hb, hr, hml, hts, hown, hlk, hnm, hP, hK, hD, hA, hZ, hl⟩ := hBd
  have hown : s.vm.findClass RX9 = some m.cls := hown
  have hl : lv_has ls 1 [(0, .int p0)] := hl
  have hS : va_S A s.heap s.heap [] := va_S.rf
  refine lv_iload_n hx hb dX9_isSlot_0 rfl (lv_at hl 0 rfl) ?_
  refine lv_if_lt (tgt := 13) hx hb dX9_isSlot_1 (by decide) (fun c1 => ?_) (fun c1 => ?_)
  · have c1 := i_lt h0 ki_0 c1
    refine lv_iconst (v := 0) hx hb dX9_isSlot_13 (by decide) ?_
    exact hret _ _ _ _ 0 () hP hD hS dX9_isSlot_14 rfl (show (((0 : Int32) = 1 ∧ 0 ≤ a0 ∧ a0 ≤ 3) ∨ ((0 : Int32) = 0 ∧ (a0 < 0 ∨ 3 < a0))) from (Or.inr ⟨rfl, by omega⟩))
  · have c1 := i_nlt h0 ki_0 c1
    refine lv_iload_n hx hb dX9_isSlot_4 rfl (lv_at hl 0 rfl) ?_
    refine lv_iconst (v := 4) hx hb dX9_isSlot_5 (by decide) ?_
    refine lv_icmp_ge (tgt := 13) hx hb dX9_isSlot_6 (by decide) (fun c2 => ?_) (fun c2 => ?_)
    · have c2 := i_le ki_4 h0 c2
      refine lv_iconst (v := 0) hx hb dX9_isSlot_13 (by decide) ?_
      exact hret _ _ _ _ 0 () hP hD hS dX9_isSlot_14 rfl (show (((0 : Int32) = 1 ∧ 0 ≤ a0 ∧ a0 ≤ 3) ∨ ((0 : Int32) = 0 ∧ (a0 < 0 ∨ 3 < a0))) from (Or.inr ⟨rfl, by omega⟩))
    · have c2 := i_nle ki_4 h0 c2
      refine lv_iconst (v := 1) hx hb dX9_isSlot_9 (by decide) ?_
      refine lv_goto (tgt := 14) hx hb dX9_isSlot_10 (by decide) ?_
      exact hret _ _ _ _ 1 () hP hD hS dX9_isSlot_14 rfl (show (((1 : Int32) = 1 ∧ 0 ≤ a0 ∧ a0 ≤ 3) ∨ ((1 : Int32) = 0 ∧ (a0 < 0 ∨ 3 < a0))) from (Or.inl ⟨rfl, by omega, by omega⟩))
set_option maxHeartbeats 4000000 in
set_option maxRecDepth 100000 in
theorem f_X9_isSeed (l : Launch) (G : va_G) (cI cJ cZ cB cQ : ClassId) (sz : Nat) (p0 : Int32) : CI l yX9_isSeed (wl_ yX9_isSeed cX9_isSeed 1 (some .boolean)) ({ frames := 0, cells := 0, slots := 0, locals := 0 } : Room) G (TY cI cJ cZ cB cQ) [.int p0] [] sz (fun (r : Int32) (u : Unit) => 0 ≤ r.toInt ∧ r.toInt ≤ 1) (fun _ : Unit => []) 0 0 := by
  refine CI.goz (cc := cX9_isSeed) (maxL := 1) (ret := (some .boolean)) (by decide) rfl (Nat.le_of_ble_eq_true rfl) ?_
  intro p e s m below meth c A ls Q hBd hret
  obtain ⟨hx, hb, hr, hml, hts, hown, hlk, hnm, hP, hK, hD, hA, hZ, hl⟩ := hBd
  have hown : s.vm.findClass RX9 = some m.cls := hown
  have hl : lv_has ls 1 [(0, .int p0)] := hl
  have hS : va_S A s.heap s.heap [] := va_S.rf
  refine lv_iload_n hx hb dX9_isSeed_0 rfl (lv_at hl 0 rfl) ?_
  refine lv_if_lt (tgt := 15) hx hb dX9_isSeed_1 (by decide) (fun c1 => ?_) (fun c1 => ?_)
  · have c1 := i_lt rfl ki_0 c1
    refine lv_iconst (v := 0) hx hb dX9_isSeed_15 (by decide) ?_
    exact hret _ _ _ _ 0 () hP hD hS dX9_isSeed_16 rfl (show 0 ≤ (0 : Int32).toInt ∧ (0 : Int32).toInt ≤ 1 from ⟨(by rw [ki_0]; decide), (by rw [ki_0]; decide)⟩)
  · have c1 := i_nlt rfl ki_0 c1
    refine lv_iload_n hx hb dX9_isSeed_4 rfl (lv_at hl 0 rfl) ?_
    refine lv_ldcw (v := 2000000000) hx hb hown (hts _ w_1120) dX9_isSeed_5 ?_
    refine lv_icmp_gt (tgt := 15) hx hb dX9_isSeed_8 (by decide) (fun c2 => ?_) (fun c2 => ?_)
    · have c2 := i_lt ki_2000000000 rfl c2
      refine lv_iconst (v := 0) hx hb dX9_isSeed_15 (by decide) ?_
      exact hret _ _ _ _ 0 () hP hD hS dX9_isSeed_16 rfl (show 0 ≤ (0 : Int32).toInt ∧ (0 : Int32).toInt ≤ 1 from ⟨(by rw [ki_0]; decide), (by rw [ki_0]; decide)⟩)
    · have c2 := i_nlt ki_2000000000 rfl c2
      refine lv_iconst (v := 1) hx hb dX9_isSeed_11 (by decide) ?_
      refine lv_goto (tgt := 16) hx hb dX9_isSeed_12 (by decide) ?_
      exact hret _ _ _ _ 1 () hP hD hS dX9_isSeed_16 rfl (show 0 ≤ (1 : Int32).toInt ∧ (1 : Int32).toInt ≤ 1 from ⟨(by rw [ki_1]; decide), (by rw [ki_1]; decide)⟩)
set_option maxHeartbeats 4000000 in
set_option maxRecDepth 100000 in
theorem f_X9_isPart (l : Launch) (G : va_G) (cI cJ cZ cB cQ : ClassId) (sz : Nat) (p0 : Int32) : CI l yX9_isPart (wl_ yX9_isPart cX9_isPart 1 (some .boolean)) ({ frames := 0, cells := 0, slots := 0, locals := 0 } : Room) G (TY cI cJ cZ cB cQ) [.int p0] [] sz (fun (r : Int32) (u : Unit) => 0 ≤ r.toInt ∧ r.toInt ≤ 1) (fun _ : Unit => []) 0 0 := by
  refine CI.goz (cc := cX9_isPart) (maxL := 1) (ret := (some .boolean)) (by decide) rfl (Nat.le_of_ble_eq_true rfl) ?_
  intro p e s m below meth c A ls Q hBd hret
  obtain ⟨hx, hb, hr, hml, hts, hown, hlk, hnm, hP, hK, hD, hA, hZ, hl⟩ := hBd
  have hown : s.vm.findClass RX9 = some m.cls := hown
  have hl : lv_has ls 1 [(0, .int p0)] := hl
  have hS : va_S A s.heap s.heap [] := va_S.rf
  refine lv_iload_n hx hb dX9_isPart_0 rfl (lv_at hl 0 rfl) ?_
  refine lv_if_eq (tgt := 9) hx hb dX9_isPart_1 (by decide) (fun c1 => ?_) (fun c1 => ?_)
  · have c1 := i_eq rfl ki_0 c1
    refine lv_iconst (v := 1) hx hb dX9_isPart_9 (by decide) ?_
    refine lv_goto (tgt := 14) hx hb dX9_isPart_10 (by decide) ?_
    exact hret _ _ _ _ 1 () hP hD hS dX9_isPart_14 rfl (show 0 ≤ (1 : Int32).toInt ∧ (1 : Int32).toInt ≤ 1 from ⟨(by rw [ki_1]; decide), (by rw [ki_1]; decide)⟩)
  · have c1 := i_ne rfl ki_0 c1
    refine lv_iload_n hx hb dX9_isPart_4 rfl (lv_at hl 0 rfl) ?_
    refine lv_iconst (v := 1) hx hb dX9_isPart_5 (by decide) ?_
    refine lv_icmp_ne (tgt := 13) hx hb dX9_isPart_6 (by decide) (fun c2 => ?_) (fun c2 => ?_)
    · have c2 := i_ne rfl ki_1 c2
      refine lv_iconst (v := 0) hx hb dX9_isPart_13 (by decide) ?_
      exact hret _ _ _ _ 0 () hP hD hS dX9_isPart_14 rfl (show 0 ≤ (0 : Int32).toInt ∧ (0 : Int32).toInt ≤ 1 from ⟨(by rw [ki_0]; decide), (by rw [ki_0]; decide)⟩)
    · have c2 := i_eq rfl ki_1 c2
      refine lv_iconst (v := 1) hx hb dX9_isPart_9 (by decide) ?_
      refine lv_goto (tgt := 14) hx hb dX9_isPart_10 (by decide) ?_
      exact hret _ _ _ _ 1 () hP hD hS dX9_isPart_14 rfl (show 0 ≤ (1 : Int32).toInt ∧ (1 : Int32).toInt ≤ 1 from ⟨(by rw [ki_1]; decide), (by rw [ki_1]; decide)⟩)
set_option maxHeartbeats 4000000 in
set_option maxRecDepth 100000 in
theorem f_X9_oneIf (l : Launch) (G : va_G) (cI cJ cZ cB cQ : ClassId) (sz : Nat) (p0 : Int32) : CI l yX9_oneIf (wl_ yX9_oneIf cX9_oneIf 1 (some .int)) ({ frames := 0, cells := 0, slots := 0, locals := 0 } : Room) G (TY cI cJ cZ cB cQ) [.int p0] [] sz (fun (r : Int32) (u : Unit) => 0 ≤ r.toInt ∧ r.toInt ≤ 1) (fun _ : Unit => []) 0 0 := by
  refine CI.go (cc := cX9_oneIf) (maxL := 1) (ret := (some .int)) (by decide) rfl (Nat.le_of_ble_eq_true rfl) ?_
  intro p e s m below meth c A ls Q hBd hret
  obtain ⟨hx, hb, hr, hml, hts, hown, hlk, hnm, hP, hK, hD, hA, hZ, hl⟩ := hBd
  have hown : s.vm.findClass RX9 = some m.cls := hown
  have hl : lv_has ls 1 [(0, .int p0)] := hl
  have hS : va_S A s.heap s.heap [] := va_S.rf
  refine lv_iload_n hx hb dX9_oneIf_0 rfl (lv_at hl 0 rfl) ?_
  refine lv_if_eq (tgt := 8) hx hb dX9_oneIf_1 (by decide) (fun c1 => ?_) (fun c1 => ?_)
  · have c1 := i_eq rfl ki_0 c1
    refine lv_iconst (v := 0) hx hb dX9_oneIf_8 (by decide) ?_
    exact hret _ _ _ _ 0 () hP hD hS dX9_oneIf_9 (show 0 ≤ (0 : Int32).toInt ∧ (0 : Int32).toInt ≤ 1 from ⟨(by rw [ki_0]; decide), (by rw [ki_0]; decide)⟩)
  · have c1 := i_ne rfl ki_0 c1
    refine lv_iconst (v := 1) hx hb dX9_oneIf_4 (by decide) ?_
    refine lv_goto (tgt := 9) hx hb dX9_oneIf_5 (by decide) ?_
    exact hret _ _ _ _ 1 () hP hD hS dX9_oneIf_9 (show 0 ≤ (1 : Int32).toInt ∧ (1 : Int32).toInt ≤ 1 from ⟨(by rw [ki_1]; decide), (by rw [ki_1]; decide)⟩)
set_option maxHeartbeats 4000000 in
set_option maxRecDepth 100000 in
theorem f_X9_cellOf (l : Launch) (G : va_G) (cI cJ cZ cB cQ : ClassId) (sz : Nat) (p0 : Int32) : CI l yX9_cellOf (wl_ yX9_cellOf cX9_cellOf 1 (some .int)) ({ frames := 0, cells := 0, slots := 0, locals := 0 } : Room) G (TY cI cJ cZ cB cQ) [.int p0] [] sz (fun (r : Int32) (u : Unit) => True) (fun _ : Unit => []) 0 0 := by
  refine CI.go (cc := cX9_cellOf) (maxL := 1) (ret := (some .int)) (by decide) rfl (Nat.le_of_ble_eq_true rfl) ?_
  intro p e s m below meth c A ls Q hBd hret
  obtain ⟨hx, hb, hr, hml, hts, hown, hlk, hnm, hP, hK, hD, hA, hZ, hl⟩ := hBd
  have hown : s.vm.findClass RX9 = some m.cls := hown
  have hl : lv_has ls 1 [(0, .int p0)] := hl
  have hS : va_S A s.heap s.heap [] := va_S.rf
  refine lv_iload_n hx hb dX9_cellOf_0 rfl (lv_at hl 0 rfl) ?_
  refine lv_iconst (v := (-1)) hx hb dX9_cellOf_1 (by decide) ?_
  refine lv_icmp_ne (tgt := 9) hx hb dX9_cellOf_2 (by decide) (fun c1 => ?_) (fun c1 => ?_)
  · have c1 := i_ne rfl ki_m1 c1
    refine lv_bipush (v := 10) hx hb dX9_cellOf_9 (by decide) ?_
    refine lv_iload_n hx hb dX9_cellOf_11 rfl (lv_at hl 0 rfl) ?_
    refine lv_iconst (v := 3) hx hb dX9_cellOf_12 (by decide) ?_
    refine lv_ishr hx hb dX9_cellOf_13 ?_
    refine lv_topi (fun v2 ev2 => ?_)
    refine lv_imul hx hb dX9_cellOf_14 ?_
    refine lv_topi (fun v3 ev3 => ?_)
    refine lv_iload_n hx hb dX9_cellOf_15 rfl (lv_at hl 0 rfl) ?_
    refine lv_bipush (v := 7) hx hb dX9_cellOf_16 (by decide) ?_
    refine lv_iand hx hb dX9_cellOf_18 ?_
    refine lv_topi (fun v4 ev4 => ?_)
    obtain ⟨sa5, sb6⟩ : 0 ≤ v4.toInt ∧ v4.toInt ≤ 7 := and_m 3 (by decide) (by decide) ev4
    refine lv_iadd hx hb dX9_cellOf_19 ?_
    refine lv_topi (fun v7 ev7 => ?_)
    exact hret _ _ _ _ v7 () hP hD hS dX9_cellOf_20 trivial
  · have c1 := i_eq rfl ki_m1 c1
    refine lv_iconst (v := (-1)) hx hb dX9_cellOf_5 (by decide) ?_
    refine lv_goto (tgt := 20) hx hb dX9_cellOf_6 (by decide) ?_
    exact hret _ _ _ _ (-1) () hP hD hS dX9_cellOf_20 trivial
set_option maxHeartbeats 4000000 in
set_option maxRecDepth 100000 in
theorem f_X9_bit (l : Launch) (G : va_G) (cI cJ cZ cB cQ : ClassId) (sz : Nat) (p0 : Int32) : CL l yX9_bit (wl_ yX9_bit cX9_bit 1 (some .long)) ({ frames := 0, cells := 0, slots := 0, locals := 0 } : Room) G (TY cI cJ cZ cB cQ) [.int p0] [] sz (fun (r : Int64) (u : Unit) => True) (fun _ : Unit => []) 0 0 := by
  refine CL.go (cc := cX9_bit) (maxL := 1) (ret := (some .long)) (by decide) rfl (Nat.le_of_ble_eq_true rfl) ?_
  intro p e s m below meth c A ls Q hBd hret
  obtain ⟨hx, hb, hr, hml, hts, hown, hlk, hnm, hP, hK, hD, hA, hZ, hl⟩ := hBd
  have hown : s.vm.findClass RX9 = some m.cls := hown
  have hl : lv_has ls 1 [(0, .int p0)] := hl
  have hS : va_S A s.heap s.heap [] := va_S.rf
  refine lv_lconst (v := 1) hx hb dX9_bit_0 (by decide) ?_
  refine lv_iload_n hx hb dX9_bit_1 rfl (lv_at hl 0 rfl) ?_
  refine lv_lshl hx hb dX9_bit_2 rfl ?_
  refine lv_topl (fun v1 ev1 => ?_)
  exact hret _ _ _ _ v1 () hP hD hS dX9_bit_3 trivial
set_option maxHeartbeats 4000000 in
set_option maxRecDepth 100000 in
theorem f_X9_has (l : Launch) (G : va_G) (cI cJ cZ cB cQ : ClassId) (sz : Nat) (p0 : Int64) (p1 : Int32) : CI l yX9_has (wl_ yX9_has cX9_has 3 (some .boolean)) ({ frames := 0, cells := 0, slots := 0, locals := 0 } : Room) G (TY cI cJ cZ cB cQ) [.long p0, .int p1] [] sz (fun (r : Int32) (u : Unit) => 0 ≤ r.toInt ∧ r.toInt ≤ 1) (fun _ : Unit => []) 0 0 := by
  refine CI.goz (cc := cX9_has) (maxL := 3) (ret := (some .boolean)) (by decide) rfl (Nat.le_of_ble_eq_true rfl) ?_
  intro p e s m below meth c A ls Q hBd hret
  obtain ⟨hx, hb, hr, hml, hts, hown, hlk, hnm, hP, hK, hD, hA, hZ, hl⟩ := hBd
  have hown : s.vm.findClass RX9 = some m.cls := hown
  have hl : lv_has ls 3 [(0, .long p0), (2, .int p1)] := hl
  have hS : va_S A s.heap s.heap [] := va_S.rf
  refine lv_lload_n hx hb dX9_has_0 rfl (lv_at hl 0 rfl) ?_
  refine lv_iload_n hx hb dX9_has_1 rfl (lv_at hl 1 rfl) ?_
  refine lv_lushr hx hb dX9_has_2 rfl ?_
  refine lv_topl (fun v1 ev1 => ?_)
  refine lv_lconst (v := 1) hx hb dX9_has_3 (by decide) ?_
  refine lv_land hx hb dX9_has_4 ?_
  refine lv_topl (fun v2 ev2 => ?_)
  refine lv_lconst (v := 1) hx hb dX9_has_5 (by decide) ?_
  refine W.lcmp hx hb dX9_has_6 ?_
  refine lv_if_ne (tgt := 14) hx hb dX9_has_7 (by decide) (fun c3 => ?_) (fun c3 => ?_)
  · have c3 := c_ne rfl kl_1 c3
    refine lv_iconst (v := 0) hx hb dX9_has_14 (by decide) ?_
    exact hret _ _ _ _ 0 () hP hD hS dX9_has_15 rfl (show 0 ≤ (0 : Int32).toInt ∧ (0 : Int32).toInt ≤ 1 from ⟨(by rw [ki_0]; decide), (by rw [ki_0]; decide)⟩)
  · have c3 := c_nne rfl kl_1 c3
    refine lv_iconst (v := 1) hx hb dX9_has_10 (by decide) ?_
    refine lv_goto (tgt := 15) hx hb dX9_has_11 (by decide) ?_
    exact hret _ _ _ _ 1 () hP hD hS dX9_has_15 rfl (show 0 ≤ (1 : Int32).toInt ∧ (1 : Int32).toInt ≤ 1 from ⟨(by rw [ki_1]; decide), (by rw [ki_1]; decide)⟩)
set_option maxHeartbeats 4000000 in
set_option maxRecDepth 100000 in
theorem f_J6_bitCount_0f7a4 (l : Launch) (G : va_G) (cI cJ cZ cB cQ : ClassId) (sz : Nat) (p0 : Int32) : CI l yJ6_bitCount_0f7a4 (wl_ yJ6_bitCount_0f7a4 cJ6_bitCount_0f7a4 1 (some .int)) ({ frames := 0, cells := 0, slots := 0, locals := 0 } : Room) G (TY cI cJ cZ cB cQ) [.int p0] [] sz (fun (r : Int32) (u : Unit) => 0 ≤ r.toInt ∧ r.toInt ≤ 63) (fun _ : Unit => []) 0 0 := by
  refine CI.go (cc := cJ6_bitCount_0f7a4) (maxL := 1) (ret := (some .int)) (by decide) rfl (Nat.le_of_ble_eq_true rfl) ?_
  intro p e s m below meth c A ls Q hBd hret
  obtain ⟨hx, hb, hr, hml, hts, hown, hlk, hnm, hP, hK, hD, hA, hZ, hl⟩ := hBd
  have hown : s.vm.findClass RJ6 = some m.cls := hown
  have hl : lv_has ls 1 [(0, .int p0)] := hl
  have hS : va_S A s.heap s.heap [] := va_S.rf
  refine lv_iload_n hx hb dJ6_bitCount_0f7a4_0 rfl (lv_at hl 0 rfl) ?_
  refine lv_iload_n hx hb dJ6_bitCount_0f7a4_1 rfl (lv_at hl 0 rfl) ?_
  refine lv_iconst (v := 1) hx hb dJ6_bitCount_0f7a4_2 (by decide) ?_
  refine lv_iushr hx hb dJ6_bitCount_0f7a4_3 rfl ?_
  refine lv_topi (fun v1 ev1 => ?_)
  refine lv_ldcw (v := 1431655765) hx hb hown (hts _ w_800) dJ6_bitCount_0f7a4_4 ?_
  refine lv_iand hx hb dJ6_bitCount_0f7a4_7 ?_
  refine lv_topi (fun v2 ev2 => ?_)
  refine lv_isub hx hb dJ6_bitCount_0f7a4_8 ?_
  refine lv_topi (fun v3 ev3 => ?_)
  refine lv_istore_n (lv' := [(0, .int v3)]) hx hb dJ6_bitCount_0f7a4_9 rfl hl (by decide) rfl (fun ls hl => ?_)
  refine lv_iload_n hx hb dJ6_bitCount_0f7a4_10 rfl (lv_at hl 0 rfl) ?_
  refine lv_ldcw (v := 858993459) hx hb hown (hts _ w_801) dJ6_bitCount_0f7a4_11 ?_
  refine lv_iand hx hb dJ6_bitCount_0f7a4_14 ?_
  refine lv_topi (fun v4 ev4 => ?_)
  refine lv_iload_n hx hb dJ6_bitCount_0f7a4_15 rfl (lv_at hl 0 rfl) ?_
  refine lv_iconst (v := 2) hx hb dJ6_bitCount_0f7a4_16 (by decide) ?_
  refine lv_iushr hx hb dJ6_bitCount_0f7a4_17 rfl ?_
  refine lv_topi (fun v5 ev5 => ?_)
  refine lv_ldcw (v := 858993459) hx hb hown (hts _ w_801) dJ6_bitCount_0f7a4_18 ?_
  refine lv_iand hx hb dJ6_bitCount_0f7a4_21 ?_
  refine lv_topi (fun v6 ev6 => ?_)
  refine lv_iadd hx hb dJ6_bitCount_0f7a4_22 ?_
  refine lv_topi (fun v7 ev7 => ?_)
  refine lv_istore_n (lv' := [(0, .int v7)]) hx hb dJ6_bitCount_0f7a4_23 rfl hl (by decide) rfl (fun ls hl => ?_)
  refine lv_iload_n hx hb dJ6_bitCount_0f7a4_24 rfl (lv_at hl 0 rfl) ?_
  refine lv_iload_n hx hb dJ6_bitCount_0f7a4_25 rfl (lv_at hl 0 rfl) ?_
  refine lv_iconst (v := 4) hx hb dJ6_bitCount_0f7a4_26 (by decide) ?_
  refine lv_iushr hx hb dJ6_bitCount_0f7a4_27 rfl ?_
  refine lv_topi (fun v8 ev8 => ?_)
  refine lv_iadd hx hb dJ6_bitCount_0f7a4_28 ?_
  refine lv_topi (fun v9 ev9 => ?_)
  refine lv_ldcw (v := 252645135) hx hb hown (hts _ w_802) dJ6_bitCount_0f7a4_29 ?_
  refine lv_iand hx hb dJ6_bitCount_0f7a4_32 ?_
  refine lv_topi (fun v10 ev10 => ?_)
  refine lv_istore_n (lv' := [(0, .int v10)]) hx hb dJ6_bitCount_0f7a4_33 rfl hl (by decide) rfl (fun ls hl => ?_)
  refine lv_iload_n hx hb dJ6_bitCount_0f7a4_34 rfl (lv_at hl 0 rfl) ?_
  refine lv_iload_n hx hb dJ6_bitCount_0f7a4_35 rfl (lv_at hl 0 rfl) ?_
  refine lv_bipush (v := 8) hx hb dJ6_bitCount_0f7a4_36 (by decide) ?_
  refine lv_iushr hx hb dJ6_bitCount_0f7a4_38 rfl ?_
  refine lv_topi (fun v11 ev11 => ?_)
  refine lv_iadd hx hb dJ6_bitCount_0f7a4_39 ?_
  refine lv_topi (fun v12 ev12 => ?_)
  refine lv_istore_n (lv' := [(0, .int v12)]) hx hb dJ6_bitCount_0f7a4_40 rfl hl (by decide) rfl (fun ls hl => ?_)
  refine lv_iload_n hx hb dJ6_bitCount_0f7a4_41 rfl (lv_at hl 0 rfl) ?_
  refine lv_iload_n hx hb dJ6_bitCount_0f7a4_42 rfl (lv_at hl 0 rfl) ?_
  refine lv_bipush (v := 16) hx hb dJ6_bitCount_0f7a4_43 (by decide) ?_
  refine lv_iushr hx hb dJ6_bitCount_0f7a4_45 rfl ?_
  refine lv_topi (fun v13 ev13 => ?_)
  refine lv_iadd hx hb dJ6_bitCount_0f7a4_46 ?_
  refine lv_topi (fun v14 ev14 => ?_)
  refine lv_istore_n (lv' := [(0, .int v14)]) hx hb dJ6_bitCount_0f7a4_47 rfl hl (by decide) rfl (fun ls hl => ?_)
  refine lv_iload_n hx hb dJ6_bitCount_0f7a4_48 rfl (lv_at hl 0 rfl) ?_
  refine lv_bipush (v := 63) hx hb dJ6_bitCount_0f7a4_49 (by decide) ?_
  refine lv_iand hx hb dJ6_bitCount_0f7a4_51 ?_
  refine lv_topi (fun v15 ev15 => ?_)
  obtain ⟨sa16, sb17⟩ : 0 ≤ v15.toInt ∧ v15.toInt ≤ 63 := and_m 6 (by decide) (by decide) ev15
  exact hret _ _ _ _ v15 () hP hD hS dJ6_bitCount_0f7a4_52 (show 0 ≤ v15.toInt ∧ v15.toInt ≤ 63 from ⟨sa16, sb17⟩)
set_option maxHeartbeats 4000000 in
set_option maxRecDepth 100000 in
theorem f_J13_bitCount_95d88 (l : Launch) (G : va_G) (cI cJ cZ cB cQ : ClassId) (sz : Nat) (p0 : Int64) : CI l yJ13_bitCount_95d88 (wl_ yJ13_bitCount_95d88 cJ13_bitCount_95d88 2 (some .int)) ({ frames := 0, cells := 0, slots := 0, locals := 0 } : Room) G (TY cI cJ cZ cB cQ) [.long p0] [] sz (fun (r : Int32) (u : Unit) => 0 ≤ r.toInt ∧ r.toInt ≤ 127) (fun _ : Unit => []) 0 0 := by
  refine CI.go (cc := cJ13_bitCount_95d88) (maxL := 2) (ret := (some .int)) (by decide) rfl (Nat.le_of_ble_eq_true rfl) ?_
  intro p e s m below meth c A ls Q hBd hret
  obtain ⟨hx, hb, hr, hml, hts, hown, hlk, hnm, hP, hK, hD, hA, hZ, hl⟩ := hBd
  have hown : s.vm.findClass RJ13 = some m.cls := hown
  have hl : lv_has ls 2 [(0, .long p0)] := hl
  have hS : va_S A s.heap s.heap [] := va_S.rf
  refine lv_lload_n hx hb dJ13_bitCount_95d88_0 rfl (lv_at hl 0 rfl) ?_
  refine lv_lload_n hx hb dJ13_bitCount_95d88_1 rfl (lv_at hl 0 rfl) ?_
  refine lv_iconst (v := 1) hx hb dJ13_bitCount_95d88_2 (by decide) ?_
  refine lv_lushr hx hb dJ13_bitCount_95d88_3 rfl ?_
  refine lv_topl (fun v1 ev1 => ?_)
  refine lv_ldc2 (v := 6148914691236517205) hx hb hown (hts _ w_642) dJ13_bitCount_95d88_4 ?_
  refine lv_land hx hb dJ13_bitCount_95d88_7 ?_
  refine lv_topl (fun v2 ev2 => ?_)
  refine lv_lsub hx hb dJ13_bitCount_95d88_8 ?_
  refine lv_topl (fun v3 ev3 => ?_)
  refine lv_lstore_n (lv' := [(0, .long v3)]) hx hb dJ13_bitCount_95d88_9 rfl hl (by decide) rfl (fun ls hl => ?_)
  refine lv_lload_n hx hb dJ13_bitCount_95d88_10 rfl (lv_at hl 0 rfl) ?_
  refine lv_ldc2 (v := 3689348814741910323) hx hb hown (hts _ w_643) dJ13_bitCount_95d88_11 ?_
  refine lv_land hx hb dJ13_bitCount_95d88_14 ?_
  refine lv_topl (fun v4 ev4 => ?_)
  refine lv_lload_n hx hb dJ13_bitCount_95d88_15 rfl (lv_at hl 0 rfl) ?_
  refine lv_iconst (v := 2) hx hb dJ13_bitCount_95d88_16 (by decide) ?_
  refine lv_lushr hx hb dJ13_bitCount_95d88_17 rfl ?_
  refine lv_topl (fun v5 ev5 => ?_)
  refine lv_ldc2 (v := 3689348814741910323) hx hb hown (hts _ w_643) dJ13_bitCount_95d88_18 ?_
  refine lv_land hx hb dJ13_bitCount_95d88_21 ?_
  refine lv_topl (fun v6 ev6 => ?_)
  refine lv_ladd hx hb dJ13_bitCount_95d88_22 ?_
  refine lv_topl (fun v7 ev7 => ?_)
  refine lv_lstore_n (lv' := [(0, .long v7)]) hx hb dJ13_bitCount_95d88_23 rfl hl (by decide) rfl (fun ls hl => ?_)
  refine lv_lload_n hx hb dJ13_bitCount_95d88_24 rfl (lv_at hl 0 rfl) ?_
  refine lv_lload_n hx hb dJ13_bitCount_95d88_25 rfl (lv_at hl 0 rfl) ?_
  refine lv_iconst (v := 4) hx hb dJ13_bitCount_95d88_26 (by decide) ?_
  refine lv_lushr hx hb dJ13_bitCount_95d88_27 rfl ?_
  refine lv_topl (fun v8 ev8 => ?_)
  refine lv_ladd hx hb dJ13_bitCount_95d88_28 ?_
  refine lv_topl (fun v9 ev9 => ?_)
  refine lv_ldc2 (v := 1085102592571150095) hx hb hown (hts _ w_644) dJ13_bitCount_95d88_29 ?_
  refine lv_land hx hb dJ13_bitCount_95d88_32 ?_
  refine lv_topl (fun v10 ev10 => ?_)
  refine lv_lstore_n (lv' := [(0, .long v10)]) hx hb dJ13_bitCount_95d88_33 rfl hl (by decide) rfl (fun ls hl => ?_)
  refine lv_lload_n hx hb dJ13_bitCount_95d88_34 rfl (lv_at hl 0 rfl) ?_
  refine lv_lload_n hx hb dJ13_bitCount_95d88_35 rfl (lv_at hl 0 rfl) ?_
  refine lv_bipush (v := 8) hx hb dJ13_bitCount_95d88_36 (by decide) ?_
  refine lv_lushr hx hb dJ13_bitCount_95d88_38 rfl ?_
  refine lv_topl (fun v11 ev11 => ?_)
  refine lv_ladd hx hb dJ13_bitCount_95d88_39 ?_
  refine lv_topl (fun v12 ev12 => ?_)
  refine lv_lstore_n (lv' := [(0, .long v12)]) hx hb dJ13_bitCount_95d88_40 rfl hl (by decide) rfl (fun ls hl => ?_)
  refine lv_lload_n hx hb dJ13_bitCount_95d88_41 rfl (lv_at hl 0 rfl) ?_
  refine lv_lload_n hx hb dJ13_bitCount_95d88_42 rfl (lv_at hl 0 rfl) ?_
  refine lv_bipush (v := 16) hx hb dJ13_bitCount_95d88_43 (by decide) ?_
  refine lv_lushr hx hb dJ13_bitCount_95d88_45 rfl ?_
  refine lv_topl (fun v13 ev13 => ?_)
  refine lv_ladd hx hb dJ13_bitCount_95d88_46 ?_
  refine lv_topl (fun v14 ev14 => ?_)
  refine lv_lstore_n (lv' := [(0, .long v14)]) hx hb dJ13_bitCount_95d88_47 rfl hl (by decide) rfl (fun ls hl => ?_)
  refine lv_lload_n hx hb dJ13_bitCount_95d88_48 rfl (lv_at hl 0 rfl) ?_
  refine lv_lload_n hx hb dJ13_bitCount_95d88_49 rfl (lv_at hl 0 rfl) ?_
  refine lv_bipush (v := 32) hx hb dJ13_bitCount_95d88_50 (by decide) ?_
  refine lv_lushr hx hb dJ13_bitCount_95d88_52 rfl ?_
  refine lv_topl (fun v15 ev15 => ?_)
  refine lv_ladd hx hb dJ13_bitCount_95d88_53 ?_
  refine lv_topl (fun v16 ev16 => ?_)
  refine lv_lstore_n (lv' := [(0, .long v16)]) hx hb dJ13_bitCount_95d88_54 rfl hl (by decide) rfl (fun ls hl => ?_)
  refine lv_lload_n hx hb dJ13_bitCount_95d88_55 rfl (lv_at hl 0 rfl) ?_
  refine lv_l2i hx hb dJ13_bitCount_95d88_56 rfl ?_
  refine lv_topi (fun v17 ev17 => ?_)
  refine lv_bipush (v := 127) hx hb dJ13_bitCount_95d88_57 (by decide) ?_
  refine lv_iand hx hb dJ13_bitCount_95d88_59 ?_
  refine lv_topi (fun v18 ev18 => ?_)
  obtain ⟨sa19, sb20⟩ : 0 ≤ v18.toInt ∧ v18.toInt ≤ 127 := and_m 7 (by decide) (by decide) ev18
  exact hret _ _ _ _ v18 () hP hD hS dJ13_bitCount_95d88_60 (show 0 ≤ v18.toInt ∧ v18.toInt ≤ 127 from ⟨sa19, sb20⟩)
set_option maxHeartbeats 4000000 in
set_option maxRecDepth 100000 in
theorem f_X9_leastOf (l : Launch) (G : va_G) (cI cJ cZ cB cQ : ClassId) (sz : Nat) (p0 : Int64) : CI l yX9_leastOf (wl_ yX9_leastOf cX9_leastOf 2 (some .int)) ({ frames := 1, cells := 0, slots := 0, locals := 21 } : Room) G (TY cI cJ cZ cB cQ) [.long p0] [] sz (fun (r : Int32) (u : Unit) => True) (fun _ : Unit => []) 0 0 := by
  refine CI.go (cc := cX9_leastOf) (maxL := 2) (ret := (some .int)) (by decide) rfl (Nat.le_of_ble_eq_true rfl) ?_
  intro p e s m below meth c A ls Q hBd hret
  obtain ⟨hx, hb, hr, hml, hts, hown, hlk, hnm, hP, hK, hD, hA, hZ, hl⟩ := hBd
  have hown : s.vm.findClass RX9 = some m.cls := hown
  have hl : lv_has ls 2 [(0, .long p0)] := hl
  have hS : va_S A s.heap s.heap [] := va_S.rf
  refine lv_lload_n hx hb dX9_leastOf_0 rfl (lv_at hl 0 rfl) ?_
  refine lv_lload_n hx hb dX9_leastOf_1 rfl (lv_at hl 0 rfl) ?_
  refine lv_lneg hx hb dX9_leastOf_2 ?_
  refine lv_topl (fun v1 ev1 => ?_)
  refine lv_land hx hb dX9_leastOf_3 ?_
  refine lv_topl (fun v2 ev2 => ?_)
  refine lv_lconst (v := 1) hx hb dX9_leastOf_4 (by decide) ?_
  refine lv_lsub hx hb dX9_leastOf_5 ?_
  refine lv_topl (fun v3 ev3 => ?_)
  refine k_i (wc := []) (wr := []) hP hD hS hA [] [] rfl rfl rfl (by decide) (va_runS (As := [.long v3]) (rest := []) ⟨hx, hb, hml, hown, hts⟩ (f_J13_bitCount_95d88 l G cI cJ cZ cB cQ _ v3) (va_cwS 1 hts (gS w_639 w_640 w_18 w_641) rfl rfl rfl hd_J13_bitCount_95d88 ⟨Nat.le_of_ble_eq_true rfl, Nat.le_of_ble_eq_true rfl⟩) (mS hK hZ hP hD [] rfl rfl [.long v3]) rfl rfl hl.1 rfl (lv_room (Nat.le_of_ble_eq_true rfl)) dX9_leastOf_6 ⟨Nat.le_of_ble_eq_true rfl, Nat.le_of_ble_eq_true rfl⟩) (fun r4 u5 H locs hw6 hP hD hS => ?_)
  try dsimp only at hw6
  have hP : va_P G vwCl [] H := hP
  have hD : va_D A [] := hD
  obtain ⟨w7, w8⟩ : 0 ≤ r4.toInt ∧ r4.toInt ≤ 127 := hw6
  exact hret _ _ _ _ r4 () hP hD hS dX9_leastOf_9 trivial
set_option maxHeartbeats 4000000 in
set_option maxRecDepth 100000 in
theorem f_X9_beside (l : Launch) (G : va_G) (cI cJ cZ cB cQ : ClassId) (sz : Nat) (p0 : Int32) (p1 : Int32) : CI l yX9_beside (wl_ yX9_beside cX9_beside 2 (some .int)) ({ frames := 0, cells := 0, slots := 0, locals := 0 } : Room) G (TY cI cJ cZ cB cQ) [.int p0, .int p1] [] sz (fun (r : Int32) (u : Unit) => True) (fun _ : Unit => []) 0 0 := by
  refine CI.go (cc := cX9_beside) (maxL := 2) (ret := (some .int)) (by decide) rfl (Nat.le_of_ble_eq_true rfl) ?_
  intro p e s m below meth c A ls Q hBd hret
  obtain ⟨hx, hb, hr, hml, hts, hown, hlk, hnm, hP, hK, hD, hA, hZ, hl⟩ := hBd
  have hown : s.vm.findClass RX9 = some m.cls := hown
  have hl : lv_has ls 2 [(0, .int p0), (1, .int p1)] := hl
  have hS : va_S A s.heap s.heap [] := va_S.rf
  refine lv_iload_n hx hb dX9_beside_0 rfl (lv_at hl 1 rfl) ?_
  have c1 : (p1.toInt < 0 ∨ 2 < p1.toInt) ∨ p1.toInt = 0 ∨ p1.toInt = 1 ∨ p1.toInt = 2 := by omega
  rcases c1 with c1 | c1 | c1 | c1
  · refine lv_tableOut (tgt := 77) hx hb dX9_beside_1 c1 (by decide) ?_
    refine lv_iload_n hx hb dX9_beside_77 rfl (lv_at hl 0 rfl) ?_
    refine lv_iconst (v := 3) hx hb dX9_beside_78 (by decide) ?_
    refine lv_ishr hx hb dX9_beside_79 ?_
    refine lv_topi (fun v2 ev2 => ?_)
    refine lv_if_ne (tgt := 87) hx hb dX9_beside_80 (by decide) (fun c3 => ?_) (fun c3 => ?_)
    · have c3 := i_ne rfl ki_0 c3
      refine lv_iload_n hx hb dX9_beside_87 rfl (lv_at hl 0 rfl) ?_
      refine lv_bipush (v := 8) hx hb dX9_beside_88 (by decide) ?_
      refine lv_isub hx hb dX9_beside_90 ?_
      refine lv_topi (fun v4 ev4 => ?_)
      exact hret _ _ _ _ v4 () hP hD hS dX9_beside_91 trivial
    · have c3 := i_eq rfl ki_0 c3
      refine lv_iconst (v := (-1)) hx hb dX9_beside_83 (by decide) ?_
      refine lv_goto (tgt := 91) hx hb dX9_beside_84 (by decide) ?_
      exact hret _ _ _ _ (-1) () hP hD hS dX9_beside_91 trivial
  · have zc1 : p1.toInt = 0 := c1
    refine lv_tableIn (off := 27) (tgt := 28) hx hb dX9_beside_1 (by rw [zc1]; decide) (by rw [zc1]; decide) (by rw [zc1]; rfl) (by decide) ?_
    refine lv_iload_n hx hb dX9_beside_28 rfl (lv_at hl 0 rfl) ?_
    refine lv_bipush (v := 7) hx hb dX9_beside_29 (by decide) ?_
    refine lv_iand hx hb dX9_beside_31 ?_
    refine lv_topi (fun v5 ev5 => ?_)
    obtain ⟨sa6, sb7⟩ : 0 ≤ v5.toInt ∧ v5.toInt ≤ 7 := and_m 3 (by decide) (by decide) ev5
    refine lv_if_ne (tgt := 39) hx hb dX9_beside_32 (by decide) (fun c8 => ?_) (fun c8 => ?_)
    · have c8 := i_ne rfl ki_0 c8
      refine lv_iload_n hx hb dX9_beside_39 rfl (lv_at hl 0 rfl) ?_
      refine lv_iconst (v := 1) hx hb dX9_beside_40 (by decide) ?_
      refine lv_isub hx hb dX9_beside_41 ?_
      refine lv_topi (fun v9 ev9 => ?_)
      exact hret _ _ _ _ v9 () hP hD hS dX9_beside_42 trivial
    · have c8 := i_eq rfl ki_0 c8
      refine lv_iconst (v := (-1)) hx hb dX9_beside_35 (by decide) ?_
      refine lv_goto (tgt := 42) hx hb dX9_beside_36 (by decide) ?_
      exact hret _ _ _ _ (-1) () hP hD hS dX9_beside_42 trivial
  · have zc1 : p1.toInt = 1 := c1
    refine lv_tableIn (off := 42) (tgt := 43) hx hb dX9_beside_1 (by rw [zc1]; decide) (by rw [zc1]; decide) (by rw [zc1]; rfl) (by decide) ?_
    refine lv_iload_n hx hb dX9_beside_43 rfl (lv_at hl 0 rfl) ?_
    refine lv_iconst (v := 3) hx hb dX9_beside_44 (by decide) ?_
    refine lv_ishr hx hb dX9_beside_45 ?_
    refine lv_topi (fun v10 ev10 => ?_)
    refine lv_bipush (v := 7) hx hb dX9_beside_46 (by decide) ?_
    refine lv_icmp_ne (tgt := 55) hx hb dX9_beside_48 (by decide) (fun c11 => ?_) (fun c11 => ?_)
    · have c11 := i_ne rfl ki_7 c11
      refine lv_iload_n hx hb dX9_beside_55 rfl (lv_at hl 0 rfl) ?_
      refine lv_bipush (v := 8) hx hb dX9_beside_56 (by decide) ?_
      refine lv_iadd hx hb dX9_beside_58 ?_
      refine lv_topi (fun v12 ev12 => ?_)
      exact hret _ _ _ _ v12 () hP hD hS dX9_beside_59 trivial
    · have c11 := i_eq rfl ki_7 c11
      refine lv_iconst (v := (-1)) hx hb dX9_beside_51 (by decide) ?_
      refine lv_goto (tgt := 59) hx hb dX9_beside_52 (by decide) ?_
      exact hret _ _ _ _ (-1) () hP hD hS dX9_beside_59 trivial
  · have zc1 : p1.toInt = 2 := c1
    refine lv_tableIn (off := 59) (tgt := 60) hx hb dX9_beside_1 (by rw [zc1]; decide) (by rw [zc1]; decide) (by rw [zc1]; rfl) (by decide) ?_
    refine lv_iload_n hx hb dX9_beside_60 rfl (lv_at hl 0 rfl) ?_
    refine lv_bipush (v := 7) hx hb dX9_beside_61 (by decide) ?_
    refine lv_iand hx hb dX9_beside_63 ?_
    refine lv_topi (fun v13 ev13 => ?_)
    obtain ⟨sa14, sb15⟩ : 0 ≤ v13.toInt ∧ v13.toInt ≤ 7 := and_m 3 (by decide) (by decide) ev13
    refine lv_bipush (v := 7) hx hb dX9_beside_64 (by decide) ?_
    refine lv_icmp_ne (tgt := 73) hx hb dX9_beside_66 (by decide) (fun c16 => ?_) (fun c16 => ?_)
    · have c16 := i_ne rfl ki_7 c16
      refine lv_iload_n hx hb dX9_beside_73 rfl (lv_at hl 0 rfl) ?_
      refine lv_iconst (v := 1) hx hb dX9_beside_74 (by decide) ?_
      refine lv_iadd hx hb dX9_beside_75 ?_
      refine lv_topi (fun v17 ev17 => ?_)
      exact hret _ _ _ _ v17 () hP hD hS dX9_beside_76 trivial
    · have c16 := i_eq rfl ki_7 c16
      refine lv_iconst (v := (-1)) hx hb dX9_beside_69 (by decide) ?_
      refine lv_goto (tgt := 76) hx hb dX9_beside_70 (by decide) ?_
      exact hret _ _ _ _ (-1) () hP hD hS dX9_beside_76 trivial
set_option maxHeartbeats 4000000 in
set_option maxRecDepth 100000 in
theorem f_X9_around (l : Launch) (G : va_G) (cI cJ cZ cB cQ : ClassId) (sz : Nat) (p0 : Int32) : CL l yX9_around (wl_ yX9_around cX9_around 5 (some .long)) ({ frames := 1, cells := 0, slots := 0, locals := 21 } : Room) G (TY cI cJ cZ cB cQ) [.int p0] [] sz (fun (r : Int64) (u : Unit) => True) (fun _ : Unit => []) 0 0 := by
  refine CL.go (cc := cX9_around) (maxL := 5) (ret := (some .long)) (by decide) rfl (Nat.le_of_ble_eq_true rfl) ?_
  intro p e s m below meth c A ls Q hBd hret
  obtain ⟨hx, hb, hr, hml, hts, hown, hlk, hnm, hP, hK, hD, hA, hZ, hl⟩ := hBd
  have hown : s.vm.findClass RX9 = some m.cls := hown
  have hl : lv_has ls 5 [(0, .int p0)] := hl
  have hS : va_S A s.heap s.heap [] := va_S.rf
  refine lv_lconst (v := 0) hx hb dX9_around_0 (by decide) ?_
  refine lv_lstore_n (lv' := [(1, .long 0), (0, .int p0)]) hx hb dX9_around_1 rfl hl (by decide) rfl (fun ls hl => ?_)
  refine lv_iconst (v := 0) hx hb dX9_around_2 (by decide) ?_
  refine lv_istore_n (lv' := [(3, .int 0), (1, .long 0), (0, .int p0)]) hx hb dX9_around_3 rfl hl (by decide) rfl (fun ls hl => ?_)
  have lp1 : ∀ (n2 : Nat) (x3 : Int32) (y4 : Int64), 0 ≤ x3.toInt → x3.toInt ≤ 4 → 4 - x3.toInt < (n2 : Int) → ∀ (H : Heap) (locs : List Loc), va_P G vwCl [] H → va_D A [] → va_S A s.heap H locs → ∀ (ls : Array Slot), lv_has ls 5 [(3, .int x3), (1, .long y4), (0, .int p0)] → W p l e ({ frames := 1, cells := 0, slots := 0, locals := 21 } : Room) s m ([.int p0] : List Value).toArray below meth c H locs 0 0 Q (F0 m 4 ls []) := by
    intro n2
    induction n2 with
    | zero =>
      intro x3 y4 k5 k6 mm8
      exact absurd mm8 (by have q9 := fb_rng x3; omega)
    | succ n2 ih7 =>
      intro x3 y4 k5 k6 mm8 H locs hP hD hS ls hl
      refine lv_iload_n hx hb dX9_around_4 rfl (lv_at hl 0 rfl) ?_
      refine lv_iconst (v := 4) hx hb dX9_around_5 (by decide) ?_
      refine lv_icmp_ge (tgt := 36) hx hb dX9_around_6 (by decide) (fun c9 => ?_) (fun c9 => ?_)
      · have c9 := i_le ki_4 rfl c9
        refine lv_lload_n hx hb dX9_around_36 rfl (lv_at hl 1 rfl) ?_
        exact hret _ _ _ _ y4 () hP hD hS dX9_around_37 trivial
      · have c9 := i_nle ki_4 rfl c9
        refine lv_iload_n hx hb dX9_around_9 rfl (lv_at hl 2 rfl) ?_
        refine lv_iload_n hx hb dX9_around_10 rfl (lv_at hl 0 rfl) ?_
        refine k_i (wc := []) (wr := []) hP hD hS hA [] [] rfl rfl rfl (by decide) (va_runS (As := [.int p0, .int x3]) (rest := []) ⟨hx, hb, hml, hown, hts⟩ (f_X9_beside l G cI cJ cZ cB cQ _ p0 x3) (va_cwS 2 hts (gS w_909 w_620 w_1 w_621) rfl rfl rfl hd_X9_beside ⟨Nat.le_of_ble_eq_true rfl, Nat.le_of_ble_eq_true rfl⟩) (mS hK hZ hP hD [] rfl rfl [.int p0, .int x3]) rfl rfl hl.1 rfl (lv_room (Nat.le_of_ble_eq_true rfl)) dX9_around_11 ⟨Nat.le_of_ble_eq_true rfl, Nat.le_of_ble_eq_true rfl⟩) (fun r10 u11 H locs hw12 hP hD hS => ?_)
        try dsimp only at hw12
        have hP : va_P G vwCl [] H := hP
        have hD : va_D A [] := hD
        refine lv_istore (lv' := [(4, .int r10), (3, .int x3), (1, .long y4), (0, .int p0)]) hx hb dX9_around_14 hl (by decide) rfl (fun ls hl => ?_)
        refine lv_iload hx hb dX9_around_16 (lv_at hl 0 rfl) ?_
        refine lv_iconst (v := (-1)) hx hb dX9_around_18 (by decide) ?_
        refine lv_icmp_eq (tgt := 30) hx hb dX9_around_19 (by decide) (fun c13 => ?_) (fun c13 => ?_)
        · have c13 := i_eq rfl ki_m1 c13
          obtain ⟨v14, ev14⟩ : ∃ y : Int32, y = x3 + 1 := ⟨_, rfl⟩
          have tv14 : v14.toInt = x3.toInt + 1 := ti_add rfl ki_1 ev14 (by omega) (by omega)
          refine lv_iinc (v := v14) (lv' := [(3, .int v14), (4, .int r10), (1, .long y4), (0, .int p0)]) hx hb dX9_around_30 hl (k := 1) rfl (by rw [ev14]; rfl) (by decide) rfl (fun ls hl => ?_)
          refine lv_goto (tgt := 4) hx hb dX9_around_33 (by decide) ?_
          exact ih7 v14 y4 (by omega) (by omega) (by omega) _ _ hP hD hS ls (lv_sub hl [0, 2, 3] rfl)
        · have c13 := i_ne rfl ki_m1 c13
          refine lv_lload_n hx hb dX9_around_22 rfl (lv_at hl 2 rfl) ?_
          refine lv_iload hx hb dX9_around_23 (lv_at hl 0 rfl) ?_
          refine k_l (wc := []) (wr := []) hP hD hS hA [] [] rfl rfl rfl (by decide) (va_runS (As := [.int r10]) (rest := [.long y4]) ⟨hx, hb, hml, hown, hts⟩ (f_X9_bit l G cI cJ cZ cB cQ _ r10) (va_cwS 1 hts (gS w_910 w_518 w_1 w_519) rfl rfl rfl hd_X9_bit ⟨Nat.le_of_ble_eq_true rfl, Nat.le_of_ble_eq_true rfl⟩) (mS hK hZ hP hD [] rfl rfl [.int r10]) rfl rfl hl.1 rfl (lv_room (Nat.le_of_ble_eq_true rfl)) dX9_around_25 ⟨Nat.le_of_ble_eq_true rfl, Nat.le_of_ble_eq_true rfl⟩) (fun r15 u16 H locs hw17 hP hD hS => ?_)
          try dsimp only at hw17
          have hP : va_P G vwCl [] H := hP
          have hD : va_D A [] := hD
          refine lv_lor hx hb dX9_around_28 ?_
          refine lv_topl (fun v18 ev18 => ?_)
          refine lv_lstore_n (lv' := [(1, .long v18), (4, .int r10), (3, .int x3), (0, .int p0)]) hx hb dX9_around_29 rfl hl (by decide) rfl (fun ls hl => ?_)
          obtain ⟨v19, ev19⟩ : ∃ y : Int32, y = x3 + 1 := ⟨_, rfl⟩
          have tv19 : v19.toInt = x3.toInt + 1 := ti_add rfl ki_1 ev19 (by omega) (by omega)
          refine lv_iinc (v := v19) (lv' := [(3, .int v19), (1, .long v18), (4, .int r10), (0, .int p0)]) hx hb dX9_around_30 hl (k := 2) rfl (by rw [ev19]; rfl) (by decide) rfl (fun ls hl => ?_)
          refine lv_goto (tgt := 4) hx hb dX9_around_33 (by decide) ?_
          exact ih7 v19 v18 (by omega) (by omega) (by omega) _ _ hP hD hS ls (lv_sub hl [0, 1, 3] rfl)
  exact lp1 5 0 0 (by rw [ki_0]; decide) (by rw [ki_0]; decide) (by rw [ki_0]; decide) _ _ hP hD hS ls (lv_sub hl [0, 1, 2] rfl)
