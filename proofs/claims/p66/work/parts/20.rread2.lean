theorem wp_86 : Cond.selects "WidowRoadsModel" yX10_readLine yX10_readLine ∈ GW := GW_p 86 (by decide +kernel) rfl
theorem wp_87 : Cond.selects "WidowRoadsModel" yX10_readFirst yX10_readFirst ∈ GW := GW_p 87 (by decide +kernel) rfl
theorem wp_94 : Cond.selects "WidowRoadsModel" yX10_readNext yX10_readNext ∈ GW := GW_p 94 (by decide +kernel) rfl
theorem wp_95 : Cond.selects "WidowRoadsModel" yX10_isFull yX10_isFull ∈ GW := GW_p 95 (by decide +kernel) rfl
theorem wp_96 : Cond.selects "WidowRoadsModel" yX10_readCell yX10_readCell ∈ GW := GW_p 96 (by decide +kernel) rfl
theorem wp_98 : Cond.selects "WidowRoadsModel" yX10_readWidow yX10_readWidow ∈ GW := GW_p 98 (by decide +kernel) rfl
theorem wp_99 : Cond.selects "WidowRoadsModel" yX10_readTurn yX10_readTurn ∈ GW := GW_p 99 (by decide +kernel) rfl
theorem wp_100 : Cond.selects "WidowRoadsModel" yX10_turnWord yX10_turnWord ∈ GW := GW_p 100 (by decide +kernel) rfl
theorem w_1377 : Jvm.Cond.methodLink "WidowRoadsModel" (258 : Nat) ({ cls := "WidowRoadsModel", name := "readLine", desc := "()V" } : Jvm.MethodName) ∈ GW := GW_t 1377 (by decide +kernel) rfl
theorem w_1379 : Jvm.Cond.instanceMethod ({ cls := "WidowRoadsModel", name := "readLine", desc := "()V" } : Jvm.MethodName) ∈ GW := GW_t 1379 (by decide +kernel) rfl
theorem w_1380 : Jvm.Cond.code ({ cls := "WidowRoadsModel", name := "readLine", desc := "()V" } : Jvm.MethodName) prog_12_method_37_code (1 : Nat) (Option.none : Option Jvm.ClassFile.FieldType) ∈ GW := GW_t 1380 (by decide +kernel) rfl
theorem w_1381 : Jvm.Cond.methodLink "WidowRoadsModel" (252 : Nat) ({ cls := "WidowRoadsModel", name := "readFirst", desc := "()V" } : Jvm.MethodName) ∈ GW := GW_t 1381 (by decide +kernel) rfl
theorem w_1383 : Jvm.Cond.instanceMethod ({ cls := "WidowRoadsModel", name := "readFirst", desc := "()V" } : Jvm.MethodName) ∈ GW := GW_t 1383 (by decide +kernel) rfl
theorem w_1384 : Jvm.Cond.code ({ cls := "WidowRoadsModel", name := "readFirst", desc := "()V" } : Jvm.MethodName) prog_12_method_29_code (1 : Nat) (Option.none : Option Jvm.ClassFile.FieldType) ∈ GW := GW_t 1384 (by decide +kernel) rfl
theorem w_1417 : Jvm.Cond.methodLink "WidowRoadsModel" (255 : Nat) ({ cls := "WidowRoadsModel", name := "readNext", desc := "()V" } : Jvm.MethodName) ∈ GW := GW_t 1417 (by decide +kernel) rfl
theorem w_1419 : Jvm.Cond.instanceMethod ({ cls := "WidowRoadsModel", name := "readNext", desc := "()V" } : Jvm.MethodName) ∈ GW := GW_t 1419 (by decide +kernel) rfl
theorem w_1420 : Jvm.Cond.code ({ cls := "WidowRoadsModel", name := "readNext", desc := "()V" } : Jvm.MethodName) prog_12_method_36_code (3 : Nat) (Option.none : Option Jvm.ClassFile.FieldType) ∈ GW := GW_t 1420 (by decide +kernel) rfl
theorem w_1424 : Jvm.Cond.methodLink "WidowRoadsModel" (246 : Nat) ({ cls := "WidowRoadsModel", name := "isFull", desc := "()Z" } : Jvm.MethodName) ∈ GW := GW_t 1424 (by decide +kernel) rfl
theorem w_1426 : Jvm.Cond.instanceMethod ({ cls := "WidowRoadsModel", name := "isFull", desc := "()Z" } : Jvm.MethodName) ∈ GW := GW_t 1426 (by decide +kernel) rfl
theorem w_1427 : Jvm.Cond.code ({ cls := "WidowRoadsModel", name := "isFull", desc := "()Z" } : Jvm.MethodName) prog_12_method_35_code (1 : Nat) (Option.some Jvm.ClassFile.FieldType.boolean) ∈ GW := GW_t 1427 (by decide +kernel) rfl
theorem w_1428 : Jvm.Cond.methodLink "WidowRoadsModel" (226 : Nat) ({ cls := "WidowRoadsModel", name := "readCell", desc := "(Z)I" } : Jvm.MethodName) ∈ GW := GW_t 1428 (by decide +kernel) rfl
theorem w_1430 : Jvm.Cond.instanceMethod ({ cls := "WidowRoadsModel", name := "readCell", desc := "(Z)I" } : Jvm.MethodName) ∈ GW := GW_t 1430 (by decide +kernel) rfl
theorem w_1431 : Jvm.Cond.code ({ cls := "WidowRoadsModel", name := "readCell", desc := "(Z)I" } : Jvm.MethodName) prog_12_method_31_code (4 : Nat) (Option.some Jvm.ClassFile.FieldType.int) ∈ GW := GW_t 1431 (by decide +kernel) rfl
theorem w_1436 : Jvm.Cond.methodLink "WidowRoadsModel" (249 : Nat) ({ cls := "WidowRoadsModel", name := "readWidow", desc := "()V" } : Jvm.MethodName) ∈ GW := GW_t 1436 (by decide +kernel) rfl
theorem w_1438 : Jvm.Cond.instanceMethod ({ cls := "WidowRoadsModel", name := "readWidow", desc := "()V" } : Jvm.MethodName) ∈ GW := GW_t 1438 (by decide +kernel) rfl
theorem w_1439 : Jvm.Cond.code ({ cls := "WidowRoadsModel", name := "readWidow", desc := "()V" } : Jvm.MethodName) prog_12_method_34_code (2 : Nat) (Option.none : Option Jvm.ClassFile.FieldType) ∈ GW := GW_t 1439 (by decide +kernel) rfl
theorem w_1444 : Jvm.Cond.methodLink "WidowRoadsModel" (237 : Nat) ({ cls := "WidowRoadsModel", name := "readTurn", desc := "(I)V" } : Jvm.MethodName) ∈ GW := GW_t 1444 (by decide +kernel) rfl
theorem w_1446 : Jvm.Cond.instanceMethod ({ cls := "WidowRoadsModel", name := "readTurn", desc := "(I)V" } : Jvm.MethodName) ∈ GW := GW_t 1446 (by decide +kernel) rfl
theorem w_1447 : Jvm.Cond.code ({ cls := "WidowRoadsModel", name := "readTurn", desc := "(I)V" } : Jvm.MethodName) prog_12_method_33_code (3 : Nat) (Option.none : Option Jvm.ClassFile.FieldType) ∈ GW := GW_t 1447 (by decide +kernel) rfl
theorem w_1448 : Jvm.Cond.methodLink "WidowRoadsModel" (223 : Nat) ({ cls := "WidowRoadsModel", name := "turnWord", desc := "()I" } : Jvm.MethodName) ∈ GW := GW_t 1448 (by decide +kernel) rfl
theorem w_1450 : Jvm.Cond.instanceMethod ({ cls := "WidowRoadsModel", name := "turnWord", desc := "()I" } : Jvm.MethodName) ∈ GW := GW_t 1450 (by decide +kernel) rfl
theorem w_1451 : Jvm.Cond.code ({ cls := "WidowRoadsModel", name := "turnWord", desc := "()I" } : Jvm.MethodName) prog_12_method_32_code (1 : Nat) (Option.some Jvm.ClassFile.FieldType.int) ∈ GW := GW_t 1451 (by decide +kernel) rfl
theorem hd_X10_isFull : yX10_isFull.cls ≠ "java/lang/invoke/MethodHandle" ∧ yX10_isFull.cls ≠ "java/lang/invoke/VarHandle" ∧ (parseMethodDescriptor yX10_isFull.desc).map (fun d => d.parameters.length) = some 0 := by decide +kernel
theorem hd_X10_readCell : yX10_readCell.cls ≠ "java/lang/invoke/MethodHandle" ∧ yX10_readCell.cls ≠ "java/lang/invoke/VarHandle" ∧ (parseMethodDescriptor yX10_readCell.desc).map (fun d => d.parameters.length) = some 1 := by decide +kernel
theorem hd_X10_readFirst : yX10_readFirst.cls ≠ "java/lang/invoke/MethodHandle" ∧ yX10_readFirst.cls ≠ "java/lang/invoke/VarHandle" ∧ (parseMethodDescriptor yX10_readFirst.desc).map (fun d => d.parameters.length) = some 0 := by decide +kernel
theorem hd_X10_readLine : yX10_readLine.cls ≠ "java/lang/invoke/MethodHandle" ∧ yX10_readLine.cls ≠ "java/lang/invoke/VarHandle" ∧ (parseMethodDescriptor yX10_readLine.desc).map (fun d => d.parameters.length) = some 0 := by decide +kernel
theorem hd_X10_readNext : yX10_readNext.cls ≠ "java/lang/invoke/MethodHandle" ∧ yX10_readNext.cls ≠ "java/lang/invoke/VarHandle" ∧ (parseMethodDescriptor yX10_readNext.desc).map (fun d => d.parameters.length) = some 0 := by decide +kernel
theorem hd_X10_readTurn : yX10_readTurn.cls ≠ "java/lang/invoke/MethodHandle" ∧ yX10_readTurn.cls ≠ "java/lang/invoke/VarHandle" ∧ (parseMethodDescriptor yX10_readTurn.desc).map (fun d => d.parameters.length) = some 1 := by decide +kernel
theorem hd_X10_readWidow : yX10_readWidow.cls ≠ "java/lang/invoke/MethodHandle" ∧ yX10_readWidow.cls ≠ "java/lang/invoke/VarHandle" ∧ (parseMethodDescriptor yX10_readWidow.desc).map (fun d => d.parameters.length) = some 0 := by decide +kernel
theorem hd_X10_turnWord : yX10_turnWord.cls ≠ "java/lang/invoke/MethodHandle" ∧ yX10_turnWord.cls ≠ "java/lang/invoke/VarHandle" ∧ (parseMethodDescriptor yX10_turnWord.desc).map (fun d => d.parameters.length) = some 0 := by decide +kernel
theorem ki_149 : (149 : Int32).toInt = 149 := by decide
theorem dX10_colony_0 : decode cX10_colony 0 = .ok (.aload_n 0, 1) := by decide +kernel
theorem dX10_colony_1 : decode cX10_colony 1 = .ok (.aload_n 0, 1) := by decide +kernel
theorem dX10_colony_2 : decode cX10_colony 2 = .ok (.getfield 123, 3) := by decide +kernel
theorem dX10_colony_5 : decode cX10_colony 5 = .ok (.putfield 126, 3) := by decide +kernel
theorem dX10_colony_8 : decode cX10_colony 8 = .ok (.aload_n 0, 1) := by decide +kernel
theorem dX10_colony_9 : decode cX10_colony 9 = .ok (.iconst 0, 1) := by decide +kernel
theorem dX10_colony_10 : decode cX10_colony 10 = .ok (.putfield 123, 3) := by decide +kernel
theorem dX10_colony_13 : decode cX10_colony 13 = .ok (.aload_n 0, 1) := by decide +kernel
theorem dX10_colony_14 : decode cX10_colony 14 = .ok (.iconst 0, 1) := by decide +kernel
theorem dX10_colony_15 : decode cX10_colony 15 = .ok (.putfield 129, 3) := by decide +kernel
theorem dX10_colony_18 : decode cX10_colony 18 = .ok (.aload_n 0, 1) := by decide +kernel
theorem dX10_colony_19 : decode cX10_colony 19 = .ok (.iconst 0, 1) := by decide +kernel
theorem dX10_colony_20 : decode cX10_colony 20 = .ok (.putfield 160, 3) := by decide +kernel
theorem dX10_colony_23 : decode cX10_colony 23 = .ok (.aload_n 0, 1) := by decide +kernel
theorem dX10_colony_24 : decode cX10_colony 24 = .ok (.iconst (-1), 1) := by decide +kernel
theorem dX10_colony_25 : decode cX10_colony 25 = .ok (.putfield 27, 3) := by decide +kernel
theorem dX10_colony_28 : decode cX10_colony 28 = .ok (.iconst 0, 1) := by decide +kernel
theorem dX10_colony_29 : decode cX10_colony 29 = .ok (.istore_n 1, 1) := by decide +kernel
theorem dX10_colony_30 : decode cX10_colony 30 = .ok (.iload_n 1, 1) := by decide +kernel
theorem dX10_colony_31 : decode cX10_colony 31 = .ok (.sipush 149, 3) := by decide +kernel
theorem dX10_colony_34 : decode cX10_colony 34 = .ok (.if_icmp .ge 16, 3) := by decide +kernel
theorem dX10_colony_37 : decode cX10_colony 37 = .ok (.aload_n 0, 1) := by decide +kernel
theorem dX10_colony_38 : decode cX10_colony 38 = .ok (.getfield 31, 3) := by decide +kernel
theorem dX10_colony_41 : decode cX10_colony 41 = .ok (.iload_n 1, 1) := by decide +kernel
theorem dX10_colony_42 : decode cX10_colony 42 = .ok (.iconst 0, 1) := by decide +kernel
theorem dX10_colony_43 : decode cX10_colony 43 = .ok (.iastore, 1) := by decide +kernel
theorem dX10_colony_44 : decode cX10_colony 44 = .ok (.iinc 1 1, 3) := by decide +kernel
theorem dX10_colony_47 : decode cX10_colony 47 = .ok (.goto (-17), 3) := by decide +kernel
theorem dX10_colony_50 : decode cX10_colony 50 = .ok (.aload_n 0, 1) := by decide +kernel
theorem dX10_colony_51 : decode cX10_colony 51 = .ok (.invokevirtual 179, 3) := by decide +kernel
theorem dX10_colony_54 : decode cX10_colony 54 = .ok (.aload_n 0, 1) := by decide +kernel
theorem dX10_colony_55 : decode cX10_colony 55 = .ok (.invokevirtual 163, 3) := by decide +kernel
theorem dX10_colony_58 : decode cX10_colony 58 = .ok (.ifCond .eq 17, 3) := by decide +kernel
theorem dX10_colony_61 : decode cX10_colony 61 = .ok (.aload_n 0, 1) := by decide +kernel
theorem dX10_colony_62 : decode cX10_colony 62 = .ok (.getfield 139, 3) := by decide +kernel
theorem dX10_colony_65 : decode cX10_colony 65 = .ok (.ifCond .eq 10, 3) := by decide +kernel
theorem dX10_colony_68 : decode cX10_colony 68 = .ok (.aload_n 0, 1) := by decide +kernel
theorem dX10_colony_69 : decode cX10_colony 69 = .ok (.invokevirtual 258, 3) := by decide +kernel
theorem dX10_colony_72 : decode cX10_colony 72 = .ok (.goto (-18), 3) := by decide +kernel
theorem dX10_colony_75 : decode cX10_colony 75 = .ok (.aload_n 0, 1) := by decide +kernel
theorem dX10_colony_76 : decode cX10_colony 76 = .ok (.invokevirtual 163, 3) := by decide +kernel
theorem dX10_colony_79 : decode cX10_colony 79 = .ok (.ifCond .ne 6, 3) := by decide +kernel
theorem dX10_colony_82 : decode cX10_colony 82 = .ok (.bipush (-4), 2) := by decide +kernel
theorem dX10_colony_84 : decode cX10_colony 84 = .ok (.ireturn, 1) := by decide +kernel
theorem dX10_colony_85 : decode cX10_colony 85 = .ok (.iconst 0, 1) := by decide +kernel
theorem dX10_colony_86 : decode cX10_colony 86 = .ok (.istore_n 1, 1) := by decide +kernel
theorem dX10_colony_87 : decode cX10_colony 87 = .ok (.iload_n 1, 1) := by decide +kernel
theorem dX10_colony_88 : decode cX10_colony 88 = .ok (.sipush 149, 3) := by decide +kernel
theorem dX10_colony_91 : decode cX10_colony 91 = .ok (.if_icmp .ge 21, 3) := by decide +kernel
theorem dX10_colony_94 : decode cX10_colony 94 = .ok (.aload_n 0, 1) := by decide +kernel
theorem dX10_colony_95 : decode cX10_colony 95 = .ok (.getfield 9, 3) := by decide +kernel
theorem dX10_colony_98 : decode cX10_colony 98 = .ok (.iload_n 1, 1) := by decide +kernel
theorem dX10_colony_99 : decode cX10_colony 99 = .ok (.aload_n 0, 1) := by decide +kernel
theorem dX10_colony_100 : decode cX10_colony 100 = .ok (.getfield 31, 3) := by decide +kernel
theorem dX10_colony_103 : decode cX10_colony 103 = .ok (.iload_n 1, 1) := by decide +kernel
theorem dX10_colony_104 : decode cX10_colony 104 = .ok (.iaload, 1) := by decide +kernel
theorem dX10_colony_105 : decode cX10_colony 105 = .ok (.iastore, 1) := by decide +kernel
theorem dX10_colony_106 : decode cX10_colony 106 = .ok (.iinc 1 1, 3) := by decide +kernel
theorem dX10_colony_109 : decode cX10_colony 109 = .ok (.goto (-22), 3) := by decide +kernel
theorem dX10_colony_112 : decode cX10_colony 112 = .ok (.aload_n 0, 1) := by decide +kernel
theorem dX10_colony_113 : decode cX10_colony 113 = .ok (.getfield 9, 3) := by decide +kernel
theorem dX10_colony_116 : decode cX10_colony 116 = .ok (.bipush 9, 2) := by decide +kernel
theorem dX10_colony_118 : decode cX10_colony 118 = .ok (.iaload, 1) := by decide +kernel
theorem dX10_colony_119 : decode cX10_colony 119 = .ok (.ireturn, 1) := by decide +kernel
theorem dX10_isFull_0 : decode cX10_isFull 0 = .ok (.aload_n 0, 1) := by decide +kernel
theorem dX10_isFull_1 : decode cX10_isFull 1 = .ok (.ldc 240, 2) := by decide +kernel
theorem dX10_isFull_3 : decode cX10_isFull 3 = .ok (.invokevirtual 175, 3) := by decide +kernel
theorem dX10_isFull_6 : decode cX10_isFull 6 = .ok (.ifCond .eq 14, 3) := by decide +kernel
theorem dX10_isFull_9 : decode cX10_isFull 9 = .ok (.aload_n 0, 1) := by decide +kernel
theorem dX10_isFull_10 : decode cX10_isFull 10 = .ok (.getfield 31, 3) := by decide +kernel
theorem dX10_isFull_13 : decode cX10_isFull 13 = .ok (.iconst 5, 1) := by decide +kernel
theorem dX10_isFull_14 : decode cX10_isFull 14 = .ok (.iaload, 1) := by decide +kernel
theorem dX10_isFull_15 : decode cX10_isFull 15 = .ok (.bipush 12, 2) := by decide +kernel
theorem dX10_isFull_17 : decode cX10_isFull 17 = .ok (.if_icmp .eq 24, 3) := by decide +kernel
theorem dX10_isFull_20 : decode cX10_isFull 20 = .ok (.aload_n 0, 1) := by decide +kernel
theorem dX10_isFull_21 : decode cX10_isFull 21 = .ok (.ldc 242, 2) := by decide +kernel
theorem dX10_isFull_23 : decode cX10_isFull 23 = .ok (.invokevirtual 175, 3) := by decide +kernel
theorem dX10_isFull_26 : decode cX10_isFull 26 = .ok (.ifCond .eq 17, 3) := by decide +kernel
theorem dX10_isFull_29 : decode cX10_isFull 29 = .ok (.aload_n 0, 1) := by decide +kernel
theorem dX10_isFull_30 : decode cX10_isFull 30 = .ok (.getfield 31, 3) := by decide +kernel
theorem dX10_isFull_33 : decode cX10_isFull 33 = .ok (.bipush 6, 2) := by decide +kernel
theorem dX10_isFull_35 : decode cX10_isFull 35 = .ok (.iaload, 1) := by decide +kernel
theorem dX10_isFull_36 : decode cX10_isFull 36 = .ok (.bipush 6, 2) := by decide +kernel
theorem dX10_isFull_38 : decode cX10_isFull 38 = .ok (.if_icmp .ne 5, 3) := by decide +kernel
theorem dX10_isFull_41 : decode cX10_isFull 41 = .ok (.iconst 1, 1) := by decide +kernel
theorem dX10_isFull_42 : decode cX10_isFull 42 = .ok (.ireturn, 1) := by decide +kernel
theorem dX10_isFull_43 : decode cX10_isFull 43 = .ok (.aload_n 0, 1) := by decide +kernel
theorem dX10_isFull_44 : decode cX10_isFull 44 = .ok (.ldc 244, 2) := by decide +kernel
theorem dX10_isFull_46 : decode cX10_isFull 46 = .ok (.invokevirtual 175, 3) := by decide +kernel
theorem dX10_isFull_49 : decode cX10_isFull 49 = .ok (.ifCond .eq 19, 3) := by decide +kernel
theorem dX10_isFull_52 : decode cX10_isFull 52 = .ok (.aload_n 0, 1) := by decide +kernel
theorem dX10_isFull_53 : decode cX10_isFull 53 = .ok (.getfield 31, 3) := by decide +kernel
theorem dX10_isFull_56 : decode cX10_isFull 56 = .ok (.bipush 7, 2) := by decide +kernel
theorem dX10_isFull_58 : decode cX10_isFull 58 = .ok (.iaload, 1) := by decide +kernel
theorem dX10_isFull_59 : decode cX10_isFull 59 = .ok (.bipush 7, 2) := by decide +kernel
theorem dX10_isFull_61 : decode cX10_isFull 61 = .ok (.if_icmp .ne 7, 3) := by decide +kernel
theorem dX10_isFull_64 : decode cX10_isFull 64 = .ok (.iconst 1, 1) := by decide +kernel
theorem dX10_isFull_65 : decode cX10_isFull 65 = .ok (.goto 4, 3) := by decide +kernel
theorem dX10_isFull_68 : decode cX10_isFull 68 = .ok (.iconst 0, 1) := by decide +kernel
theorem dX10_isFull_69 : decode cX10_isFull 69 = .ok (.ireturn, 1) := by decide +kernel
theorem dX10_readLine_0 : decode cX10_readLine 0 = .ok (.aload_n 0, 1) := by decide +kernel
theorem dX10_readLine_1 : decode cX10_readLine 1 = .ok (.getfield 31, 3) := by decide +kernel
theorem dX10_readLine_4 : decode cX10_readLine 4 = .ok (.bipush 9, 2) := by decide +kernel
theorem dX10_readLine_6 : decode cX10_readLine 6 = .ok (.iaload, 1) := by decide +kernel
theorem dX10_readLine_7 : decode cX10_readLine 7 = .ok (.ifCond .ne 10, 3) := by decide +kernel
theorem dX10_readLine_10 : decode cX10_readLine 10 = .ok (.aload_n 0, 1) := by decide +kernel
theorem dX10_readLine_11 : decode cX10_readLine 11 = .ok (.invokevirtual 252, 3) := by decide +kernel
theorem dX10_readLine_14 : decode cX10_readLine 14 = .ok (.goto 7, 3) := by decide +kernel
theorem dX10_readLine_17 : decode cX10_readLine 17 = .ok (.aload_n 0, 1) := by decide +kernel
theorem dX10_readLine_18 : decode cX10_readLine 18 = .ok (.invokevirtual 255, 3) := by decide +kernel
theorem dX10_readLine_21 : decode cX10_readLine 21 = .ok (.aload_n 0, 1) := by decide +kernel
theorem dX10_readLine_22 : decode cX10_readLine 22 = .ok (.invokevirtual 163, 3) := by decide +kernel
theorem dX10_readLine_25 : decode cX10_readLine 25 = .ok (.ifCond .eq 16, 3) := by decide +kernel
theorem dX10_readLine_28 : decode cX10_readLine 28 = .ok (.aload_n 0, 1) := by decide +kernel
theorem dX10_readLine_29 : decode cX10_readLine 29 = .ok (.getfield 139, 3) := by decide +kernel
theorem dX10_readLine_32 : decode cX10_readLine 32 = .ok (.iconst 3, 1) := by decide +kernel
theorem dX10_readLine_33 : decode cX10_readLine 33 = .ok (.if_icmp .eq 8, 3) := by decide +kernel
theorem dX10_readLine_36 : decode cX10_readLine 36 = .ok (.aload_n 0, 1) := by decide +kernel
theorem dX10_readLine_37 : decode cX10_readLine 37 = .ok (.iconst 1, 1) := by decide +kernel
theorem dX10_readLine_38 : decode cX10_readLine 38 = .ok (.invokevirtual 185, 3) := by decide +kernel
theorem dX10_readLine_41 : decode cX10_readLine 41 = .ok (.aload_n 0, 1) := by decide +kernel
theorem dX10_readLine_42 : decode cX10_readLine 42 = .ok (.invokevirtual 163, 3) := by decide +kernel
theorem dX10_readLine_45 : decode cX10_readLine 45 = .ok (.ifCond .eq 7, 3) := by decide +kernel
theorem dX10_readLine_48 : decode cX10_readLine 48 = .ok (.aload_n 0, 1) := by decide +kernel
theorem dX10_readLine_49 : decode cX10_readLine 49 = .ok (.invokevirtual 179, 3) := by decide +kernel
theorem dX10_readLine_52 : decode cX10_readLine 52 = .ok (.aload_n 0, 1) := by decide +kernel
theorem dX10_readLine_53 : decode cX10_readLine 53 = .ok (.getfield 31, 3) := by decide +kernel
theorem dX10_readLine_56 : decode cX10_readLine 56 = .ok (.bipush 9, 2) := by decide +kernel
theorem dX10_readLine_58 : decode cX10_readLine 58 = .ok (.dup2, 1) := by decide +kernel
theorem dX10_readLine_59 : decode cX10_readLine 59 = .ok (.iaload, 1) := by decide +kernel
theorem dX10_readLine_60 : decode cX10_readLine 60 = .ok (.iconst 1, 1) := by decide +kernel
theorem dX10_readLine_61 : decode cX10_readLine 61 = .ok (.iadd, 1) := by decide +kernel
theorem dX10_readLine_62 : decode cX10_readLine 62 = .ok (.iastore, 1) := by decide +kernel
theorem dX10_readLine_63 : decode cX10_readLine 63 = .ok (.return_, 1) := by decide +kernel
theorem dX10_readNext_0 : decode cX10_readNext 0 = .ok (.aload_n 0, 1) := by decide +kernel
theorem dX10_readNext_1 : decode cX10_readNext 1 = .ok (.ldc 240, 2) := by decide +kernel
theorem dX10_readNext_3 : decode cX10_readNext 3 = .ok (.invokevirtual 175, 3) := by decide +kernel
theorem dX10_readNext_6 : decode cX10_readNext 6 = .ok (.ifCond .ne 21, 3) := by decide +kernel
theorem dX10_readNext_9 : decode cX10_readNext 9 = .ok (.aload_n 0, 1) := by decide +kernel
theorem dX10_readNext_10 : decode cX10_readNext 10 = .ok (.ldc 242, 2) := by decide +kernel
theorem dX10_readNext_12 : decode cX10_readNext 12 = .ok (.invokevirtual 175, 3) := by decide +kernel
theorem dX10_readNext_15 : decode cX10_readNext 15 = .ok (.ifCond .ne 12, 3) := by decide +kernel
theorem dX10_readNext_18 : decode cX10_readNext 18 = .ok (.aload_n 0, 1) := by decide +kernel
theorem dX10_readNext_19 : decode cX10_readNext 19 = .ok (.ldc 244, 2) := by decide +kernel
theorem dX10_readNext_21 : decode cX10_readNext 21 = .ok (.invokevirtual 175, 3) := by decide +kernel
theorem dX10_readNext_24 : decode cX10_readNext 24 = .ok (.ifCond .eq 7, 3) := by decide +kernel
theorem dX10_readNext_27 : decode cX10_readNext 27 = .ok (.iconst 1, 1) := by decide +kernel
theorem dX10_readNext_28 : decode cX10_readNext 28 = .ok (.goto 4, 3) := by decide +kernel
theorem dX10_readNext_31 : decode cX10_readNext 31 = .ok (.iconst 0, 1) := by decide +kernel
theorem dX10_readNext_32 : decode cX10_readNext 32 = .ok (.istore_n 1, 1) := by decide +kernel
theorem dX10_readNext_33 : decode cX10_readNext 33 = .ok (.iload_n 1, 1) := by decide +kernel
theorem dX10_readNext_34 : decode cX10_readNext 34 = .ok (.ifCond .ne 8, 3) := by decide +kernel
theorem dX10_readNext_37 : decode cX10_readNext 37 = .ok (.aload_n 0, 1) := by decide +kernel
theorem dX10_readNext_38 : decode cX10_readNext 38 = .ok (.iconst 1, 1) := by decide +kernel
theorem dX10_readNext_39 : decode cX10_readNext 39 = .ok (.invokevirtual 185, 3) := by decide +kernel
theorem dX10_readNext_42 : decode cX10_readNext 42 = .ok (.aload_n 0, 1) := by decide +kernel
theorem dX10_readNext_43 : decode cX10_readNext 43 = .ok (.invokevirtual 246, 3) := by decide +kernel
theorem dX10_readNext_46 : decode cX10_readNext 46 = .ok (.ifCond .eq 8, 3) := by decide +kernel
theorem dX10_readNext_49 : decode cX10_readNext 49 = .ok (.aload_n 0, 1) := by decide +kernel
theorem dX10_readNext_50 : decode cX10_readNext 50 = .ok (.iconst 3, 1) := by decide +kernel
theorem dX10_readNext_51 : decode cX10_readNext 51 = .ok (.invokevirtual 185, 3) := by decide +kernel
theorem dX10_readNext_54 : decode cX10_readNext 54 = .ok (.aload_n 0, 1) := by decide +kernel
theorem dX10_readNext_55 : decode cX10_readNext 55 = .ok (.invokevirtual 163, 3) := by decide +kernel
theorem dX10_readNext_58 : decode cX10_readNext 58 = .ok (.ifCond .ne 4, 3) := by decide +kernel
theorem dX10_readNext_61 : decode cX10_readNext 61 = .ok (.return_, 1) := by decide +kernel
theorem dX10_readNext_62 : decode cX10_readNext 62 = .ok (.aload_n 0, 1) := by decide +kernel
theorem dX10_readNext_63 : decode cX10_readNext 63 = .ok (.ldc 240, 2) := by decide +kernel
theorem dX10_readNext_65 : decode cX10_readNext 65 = .ok (.invokevirtual 182, 3) := by decide +kernel
theorem dX10_readNext_68 : decode cX10_readNext 68 = .ok (.ifCond .eq 37, 3) := by decide +kernel
theorem dX10_readNext_71 : decode cX10_readNext 71 = .ok (.aload_n 0, 1) := by decide +kernel
theorem dX10_readNext_72 : decode cX10_readNext 72 = .ok (.iconst 0, 1) := by decide +kernel
theorem dX10_readNext_73 : decode cX10_readNext 73 = .ok (.invokevirtual 226, 3) := by decide +kernel
theorem dX10_readNext_76 : decode cX10_readNext 76 = .ok (.istore_n 2, 1) := by decide +kernel
theorem dX10_readNext_77 : decode cX10_readNext 77 = .ok (.aload_n 0, 1) := by decide +kernel
theorem dX10_readNext_78 : decode cX10_readNext 78 = .ok (.getfield 31, 3) := by decide +kernel
theorem dX10_readNext_81 : decode cX10_readNext 81 = .ok (.bipush 10, 2) := by decide +kernel
theorem dX10_readNext_83 : decode cX10_readNext 83 = .ok (.aload_n 0, 1) := by decide +kernel
theorem dX10_readNext_84 : decode cX10_readNext 84 = .ok (.getfield 31, 3) := by decide +kernel
theorem dX10_readNext_87 : decode cX10_readNext 87 = .ok (.iconst 5, 1) := by decide +kernel
theorem dX10_readNext_88 : decode cX10_readNext 88 = .ok (.iaload, 1) := by decide +kernel
theorem dX10_readNext_89 : decode cX10_readNext 89 = .ok (.iadd, 1) := by decide +kernel
theorem dX10_readNext_90 : decode cX10_readNext 90 = .ok (.iload_n 2, 1) := by decide +kernel
theorem dX10_readNext_91 : decode cX10_readNext 91 = .ok (.iastore, 1) := by decide +kernel
theorem dX10_readNext_92 : decode cX10_readNext 92 = .ok (.aload_n 0, 1) := by decide +kernel
theorem dX10_readNext_93 : decode cX10_readNext 93 = .ok (.getfield 31, 3) := by decide +kernel
theorem dX10_readNext_96 : decode cX10_readNext 96 = .ok (.iconst 5, 1) := by decide +kernel
theorem dX10_readNext_97 : decode cX10_readNext 97 = .ok (.dup2, 1) := by decide +kernel
theorem dX10_readNext_98 : decode cX10_readNext 98 = .ok (.iaload, 1) := by decide +kernel
theorem dX10_readNext_99 : decode cX10_readNext 99 = .ok (.iconst 1, 1) := by decide +kernel
theorem dX10_readNext_100 : decode cX10_readNext 100 = .ok (.iadd, 1) := by decide +kernel
theorem dX10_readNext_101 : decode cX10_readNext 101 = .ok (.iastore, 1) := by decide +kernel
theorem dX10_readNext_102 : decode cX10_readNext 102 = .ok (.goto 56, 3) := by decide +kernel
theorem dX10_readNext_105 : decode cX10_readNext 105 = .ok (.aload_n 0, 1) := by decide +kernel
theorem dX10_readNext_106 : decode cX10_readNext 106 = .ok (.ldc 242, 2) := by decide +kernel
theorem dX10_readNext_108 : decode cX10_readNext 108 = .ok (.invokevirtual 182, 3) := by decide +kernel
theorem dX10_readNext_111 : decode cX10_readNext 111 = .ok (.ifCond .eq 39, 3) := by decide +kernel
theorem dX10_readNext_114 : decode cX10_readNext 114 = .ok (.aload_n 0, 1) := by decide +kernel
theorem dX10_readNext_115 : decode cX10_readNext 115 = .ok (.iconst 1, 1) := by decide +kernel
theorem dX10_readNext_116 : decode cX10_readNext 116 = .ok (.invokevirtual 226, 3) := by decide +kernel
theorem dX10_readNext_119 : decode cX10_readNext 119 = .ok (.istore_n 2, 1) := by decide +kernel
theorem dX10_readNext_120 : decode cX10_readNext 120 = .ok (.aload_n 0, 1) := by decide +kernel
theorem dX10_readNext_121 : decode cX10_readNext 121 = .ok (.getfield 31, 3) := by decide +kernel
theorem dX10_readNext_124 : decode cX10_readNext 124 = .ok (.bipush 22, 2) := by decide +kernel
theorem dX10_readNext_126 : decode cX10_readNext 126 = .ok (.aload_n 0, 1) := by decide +kernel
theorem dX10_readNext_127 : decode cX10_readNext 127 = .ok (.getfield 31, 3) := by decide +kernel
theorem dX10_readNext_130 : decode cX10_readNext 130 = .ok (.bipush 6, 2) := by decide +kernel
theorem dX10_readNext_132 : decode cX10_readNext 132 = .ok (.iaload, 1) := by decide +kernel
theorem dX10_readNext_133 : decode cX10_readNext 133 = .ok (.iadd, 1) := by decide +kernel
theorem dX10_readNext_134 : decode cX10_readNext 134 = .ok (.iload_n 2, 1) := by decide +kernel
theorem dX10_readNext_135 : decode cX10_readNext 135 = .ok (.iastore, 1) := by decide +kernel
theorem dX10_readNext_136 : decode cX10_readNext 136 = .ok (.aload_n 0, 1) := by decide +kernel
theorem dX10_readNext_137 : decode cX10_readNext 137 = .ok (.getfield 31, 3) := by decide +kernel
theorem dX10_readNext_140 : decode cX10_readNext 140 = .ok (.bipush 6, 2) := by decide +kernel
theorem dX10_readNext_142 : decode cX10_readNext 142 = .ok (.dup2, 1) := by decide +kernel
theorem dX10_readNext_143 : decode cX10_readNext 143 = .ok (.iaload, 1) := by decide +kernel
theorem dX10_readNext_144 : decode cX10_readNext 144 = .ok (.iconst 1, 1) := by decide +kernel
theorem dX10_readNext_145 : decode cX10_readNext 145 = .ok (.iadd, 1) := by decide +kernel
theorem dX10_readNext_146 : decode cX10_readNext 146 = .ok (.iastore, 1) := by decide +kernel
theorem dX10_readNext_147 : decode cX10_readNext 147 = .ok (.goto 11, 3) := by decide +kernel
theorem dX10_readNext_150 : decode cX10_readNext 150 = .ok (.aload_n 0, 1) := by decide +kernel
theorem dX10_readNext_151 : decode cX10_readNext 151 = .ok (.invokevirtual 179, 3) := by decide +kernel
theorem dX10_readNext_154 : decode cX10_readNext 154 = .ok (.aload_n 0, 1) := by decide +kernel
theorem dX10_readNext_155 : decode cX10_readNext 155 = .ok (.invokevirtual 249, 3) := by decide +kernel
theorem dX10_readNext_158 : decode cX10_readNext 158 = .ok (.return_, 1) := by decide +kernel
theorem dX10_readTurn_0 : decode cX10_readTurn 0 = .ok (.aload_n 0, 1) := by decide +kernel
theorem dX10_readTurn_1 : decode cX10_readTurn 1 = .ok (.invokevirtual 223, 3) := by decide +kernel
theorem dX10_readTurn_4 : decode cX10_readTurn 4 = .ok (.istore_n 2, 1) := by decide +kernel
theorem dX10_readTurn_5 : decode cX10_readTurn 5 = .ok (.iload_n 2, 1) := by decide +kernel
theorem dX10_readTurn_6 : decode cX10_readTurn 6 = .ok (.iconst (-1), 1) := by decide +kernel
theorem dX10_readTurn_7 : decode cX10_readTurn 7 = .ok (.if_icmp .ne 8, 3) := by decide +kernel
theorem dX10_readTurn_10 : decode cX10_readTurn 10 = .ok (.aload_n 0, 1) := by decide +kernel
theorem dX10_readTurn_11 : decode cX10_readTurn 11 = .ok (.iconst 1, 1) := by decide +kernel
theorem dX10_readTurn_12 : decode cX10_readTurn 12 = .ok (.invokevirtual 185, 3) := by decide +kernel
theorem dX10_readTurn_15 : decode cX10_readTurn 15 = .ok (.aload_n 0, 1) := by decide +kernel
theorem dX10_readTurn_16 : decode cX10_readTurn 16 = .ok (.getfield 31, 3) := by decide +kernel
theorem dX10_readTurn_19 : decode cX10_readTurn 19 = .ok (.iload_n 1, 1) := by decide +kernel
theorem dX10_readTurn_20 : decode cX10_readTurn 20 = .ok (.iconst 4, 1) := by decide +kernel
theorem dX10_readTurn_21 : decode cX10_readTurn 21 = .ok (.iadd, 1) := by decide +kernel
theorem dX10_readTurn_22 : decode cX10_readTurn 22 = .ok (.iaload, 1) := by decide +kernel
theorem dX10_readTurn_23 : decode cX10_readTurn 23 = .ok (.bipush 8, 2) := by decide +kernel
theorem dX10_readTurn_25 : decode cX10_readTurn 25 = .ok (.if_icmp .ne 8, 3) := by decide +kernel
theorem dX10_readTurn_28 : decode cX10_readTurn 28 = .ok (.aload_n 0, 1) := by decide +kernel
theorem dX10_readTurn_29 : decode cX10_readTurn 29 = .ok (.iconst 3, 1) := by decide +kernel
theorem dX10_readTurn_30 : decode cX10_readTurn 30 = .ok (.invokevirtual 185, 3) := by decide +kernel
theorem dX10_readTurn_33 : decode cX10_readTurn 33 = .ok (.aload_n 0, 1) := by decide +kernel
theorem dX10_readTurn_34 : decode cX10_readTurn 34 = .ok (.invokevirtual 163, 3) := by decide +kernel
theorem dX10_readTurn_37 : decode cX10_readTurn 37 = .ok (.ifCond .ne 4, 3) := by decide +kernel
theorem dX10_readTurn_40 : decode cX10_readTurn 40 = .ok (.return_, 1) := by decide +kernel
theorem dX10_readTurn_41 : decode cX10_readTurn 41 = .ok (.aload_n 0, 1) := by decide +kernel
theorem dX10_readTurn_42 : decode cX10_readTurn 42 = .ok (.getfield 31, 3) := by decide +kernel
theorem dX10_readTurn_45 : decode cX10_readTurn 45 = .ok (.iload_n 1, 1) := by decide +kernel
theorem dX10_readTurn_46 : decode cX10_readTurn 46 = .ok (.iconst 5, 1) := by decide +kernel
theorem dX10_readTurn_47 : decode cX10_readTurn 47 = .ok (.iadd, 1) := by decide +kernel
theorem dX10_readTurn_48 : decode cX10_readTurn 48 = .ok (.aload_n 0, 1) := by decide +kernel
theorem dX10_readTurn_49 : decode cX10_readTurn 49 = .ok (.getfield 31, 3) := by decide +kernel
theorem dX10_readTurn_52 : decode cX10_readTurn 52 = .ok (.iload_n 1, 1) := by decide +kernel
theorem dX10_readTurn_53 : decode cX10_readTurn 53 = .ok (.iconst 4, 1) := by decide +kernel
theorem dX10_readTurn_54 : decode cX10_readTurn 54 = .ok (.iadd, 1) := by decide +kernel
theorem dX10_readTurn_55 : decode cX10_readTurn 55 = .ok (.iaload, 1) := by decide +kernel
theorem dX10_readTurn_56 : decode cX10_readTurn 56 = .ok (.iadd, 1) := by decide +kernel
theorem dX10_readTurn_57 : decode cX10_readTurn 57 = .ok (.iload_n 2, 1) := by decide +kernel
theorem dX10_readTurn_58 : decode cX10_readTurn 58 = .ok (.iastore, 1) := by decide +kernel
theorem dX10_readTurn_59 : decode cX10_readTurn 59 = .ok (.aload_n 0, 1) := by decide +kernel
theorem dX10_readTurn_60 : decode cX10_readTurn 60 = .ok (.getfield 31, 3) := by decide +kernel
theorem dX10_readTurn_63 : decode cX10_readTurn 63 = .ok (.iload_n 1, 1) := by decide +kernel
theorem dX10_readTurn_64 : decode cX10_readTurn 64 = .ok (.iconst 4, 1) := by decide +kernel
theorem dX10_readTurn_65 : decode cX10_readTurn 65 = .ok (.iadd, 1) := by decide +kernel
theorem dX10_readTurn_66 : decode cX10_readTurn 66 = .ok (.dup2, 1) := by decide +kernel
theorem dX10_readTurn_67 : decode cX10_readTurn 67 = .ok (.iaload, 1) := by decide +kernel
theorem dX10_readTurn_68 : decode cX10_readTurn 68 = .ok (.iconst 1, 1) := by decide +kernel
theorem dX10_readTurn_69 : decode cX10_readTurn 69 = .ok (.iadd, 1) := by decide +kernel
theorem dX10_readTurn_70 : decode cX10_readTurn 70 = .ok (.iastore, 1) := by decide +kernel
theorem dX10_readTurn_71 : decode cX10_readTurn 71 = .ok (.aload_n 0, 1) := by decide +kernel
theorem dX10_readTurn_72 : decode cX10_readTurn 72 = .ok (.invokevirtual 179, 3) := by decide +kernel
theorem dX10_readTurn_75 : decode cX10_readTurn 75 = .ok (.return_, 1) := by decide +kernel
theorem dX10_readWidow_0 : decode cX10_readWidow 0 = .ok (.bipush 28, 2) := by decide +kernel
theorem dX10_readWidow_2 : decode cX10_readWidow 2 = .ok (.bipush 13, 2) := by decide +kernel
theorem dX10_readWidow_4 : decode cX10_readWidow 4 = .ok (.aload_n 0, 1) := by decide +kernel
theorem dX10_readWidow_5 : decode cX10_readWidow 5 = .ok (.getfield 31, 3) := by decide +kernel
theorem dX10_readWidow_8 : decode cX10_readWidow 8 = .ok (.bipush 7, 2) := by decide +kernel
theorem dX10_readWidow_10 : decode cX10_readWidow 10 = .ok (.iaload, 1) := by decide +kernel
theorem dX10_readWidow_11 : decode cX10_readWidow 11 = .ok (.imul, 1) := by decide +kernel
theorem dX10_readWidow_12 : decode cX10_readWidow 12 = .ok (.iadd, 1) := by decide +kernel
theorem dX10_readWidow_13 : decode cX10_readWidow 13 = .ok (.istore_n 1, 1) := by decide +kernel
theorem dX10_readWidow_14 : decode cX10_readWidow 14 = .ok (.aload_n 0, 1) := by decide +kernel
theorem dX10_readWidow_15 : decode cX10_readWidow 15 = .ok (.getfield 31, 3) := by decide +kernel
theorem dX10_readWidow_18 : decode cX10_readWidow 18 = .ok (.iload_n 1, 1) := by decide +kernel
theorem dX10_readWidow_19 : decode cX10_readWidow 19 = .ok (.aload_n 0, 1) := by decide +kernel
theorem dX10_readWidow_20 : decode cX10_readWidow 20 = .ok (.iconst 0, 1) := by decide +kernel
theorem dX10_readWidow_21 : decode cX10_readWidow 21 = .ok (.invokevirtual 226, 3) := by decide +kernel
theorem dX10_readWidow_24 : decode cX10_readWidow 24 = .ok (.iastore, 1) := by decide +kernel
theorem dX10_readWidow_25 : decode cX10_readWidow 25 = .ok (.aload_n 0, 1) := by decide +kernel
theorem dX10_readWidow_26 : decode cX10_readWidow 26 = .ok (.getfield 31, 3) := by decide +kernel
theorem dX10_readWidow_29 : decode cX10_readWidow 29 = .ok (.iload_n 1, 1) := by decide +kernel
theorem dX10_readWidow_30 : decode cX10_readWidow 30 = .ok (.iconst 1, 1) := by decide +kernel
theorem dX10_readWidow_31 : decode cX10_readWidow 31 = .ok (.iadd, 1) := by decide +kernel
theorem dX10_readWidow_32 : decode cX10_readWidow 32 = .ok (.aload_n 0, 1) := by decide +kernel
theorem dX10_readWidow_33 : decode cX10_readWidow 33 = .ok (.ldc 230, 2) := by decide +kernel
theorem dX10_readWidow_35 : decode cX10_readWidow 35 = .ok (.iconst 0, 1) := by decide +kernel
theorem dX10_readWidow_36 : decode cX10_readWidow 36 = .ok (.iconst 3, 1) := by decide +kernel
theorem dX10_readWidow_37 : decode cX10_readWidow 37 = .ok (.invokevirtual 199, 3) := by decide +kernel
theorem dX10_readWidow_40 : decode cX10_readWidow 40 = .ok (.iastore, 1) := by decide +kernel
theorem dX10_readWidow_41 : decode cX10_readWidow 41 = .ok (.aload_n 0, 1) := by decide +kernel
theorem dX10_readWidow_42 : decode cX10_readWidow 42 = .ok (.getfield 31, 3) := by decide +kernel
theorem dX10_readWidow_45 : decode cX10_readWidow 45 = .ok (.iload_n 1, 1) := by decide +kernel
theorem dX10_readWidow_46 : decode cX10_readWidow 46 = .ok (.iconst 2, 1) := by decide +kernel
theorem dX10_readWidow_47 : decode cX10_readWidow 47 = .ok (.iadd, 1) := by decide +kernel
theorem dX10_readWidow_48 : decode cX10_readWidow 48 = .ok (.aload_n 0, 1) := by decide +kernel
theorem dX10_readWidow_49 : decode cX10_readWidow 49 = .ok (.ldc 232, 2) := by decide +kernel
theorem dX10_readWidow_51 : decode cX10_readWidow 51 = .ok (.iconst 1, 1) := by decide +kernel
theorem dX10_readWidow_52 : decode cX10_readWidow 52 = .ok (.bipush 40, 2) := by decide +kernel
theorem dX10_readWidow_54 : decode cX10_readWidow 54 = .ok (.invokevirtual 199, 3) := by decide +kernel
theorem dX10_readWidow_57 : decode cX10_readWidow 57 = .ok (.iastore, 1) := by decide +kernel
theorem dX10_readWidow_58 : decode cX10_readWidow 58 = .ok (.aload_n 0, 1) := by decide +kernel
theorem dX10_readWidow_59 : decode cX10_readWidow 59 = .ok (.getfield 31, 3) := by decide +kernel
theorem dX10_readWidow_62 : decode cX10_readWidow 62 = .ok (.iload_n 1, 1) := by decide +kernel
theorem dX10_readWidow_63 : decode cX10_readWidow 63 = .ok (.iconst 3, 1) := by decide +kernel
theorem dX10_readWidow_64 : decode cX10_readWidow 64 = .ok (.iadd, 1) := by decide +kernel
theorem dX10_readWidow_65 : decode cX10_readWidow 65 = .ok (.aload_n 0, 1) := by decide +kernel
theorem dX10_readWidow_66 : decode cX10_readWidow 66 = .ok (.ldc 234, 2) := by decide +kernel
theorem dX10_readWidow_68 : decode cX10_readWidow 68 = .ok (.iconst 0, 1) := by decide +kernel
theorem dX10_readWidow_69 : decode cX10_readWidow 69 = .ok (.bipush 11, 2) := by decide +kernel
theorem dX10_readWidow_71 : decode cX10_readWidow 71 = .ok (.invokevirtual 199, 3) := by decide +kernel
theorem dX10_readWidow_74 : decode cX10_readWidow 74 = .ok (.iastore, 1) := by decide +kernel
theorem dX10_readWidow_75 : decode cX10_readWidow 75 = .ok (.aload_n 0, 1) := by decide +kernel
theorem dX10_readWidow_76 : decode cX10_readWidow 76 = .ok (.ldc 235, 2) := by decide +kernel
theorem dX10_readWidow_78 : decode cX10_readWidow 78 = .ok (.invokevirtual 189, 3) := by decide +kernel
theorem dX10_readWidow_81 : decode cX10_readWidow 81 = .ok (.aload_n 0, 1) := by decide +kernel
theorem dX10_readWidow_82 : decode cX10_readWidow 82 = .ok (.iload_n 1, 1) := by decide +kernel
theorem dX10_readWidow_83 : decode cX10_readWidow 83 = .ok (.invokevirtual 237, 3) := by decide +kernel
theorem dX10_readWidow_86 : decode cX10_readWidow 86 = .ok (.aload_n 0, 1) := by decide +kernel
theorem dX10_readWidow_87 : decode cX10_readWidow 87 = .ok (.invokevirtual 163, 3) := by decide +kernel
theorem dX10_readWidow_90 : decode cX10_readWidow 90 = .ok (.ifCond .eq 19, 3) := by decide +kernel
theorem dX10_readWidow_93 : decode cX10_readWidow 93 = .ok (.aload_n 0, 1) := by decide +kernel
theorem dX10_readWidow_94 : decode cX10_readWidow 94 = .ok (.getfield 139, 3) := by decide +kernel
theorem dX10_readWidow_97 : decode cX10_readWidow 97 = .ok (.iconst 3, 1) := by decide +kernel
theorem dX10_readWidow_98 : decode cX10_readWidow 98 = .ok (.if_icmp .eq 11, 3) := by decide +kernel
theorem dX10_readWidow_101 : decode cX10_readWidow 101 = .ok (.aload_n 0, 1) := by decide +kernel
theorem dX10_readWidow_102 : decode cX10_readWidow 102 = .ok (.iload_n 1, 1) := by decide +kernel
theorem dX10_readWidow_103 : decode cX10_readWidow 103 = .ok (.invokevirtual 237, 3) := by decide +kernel
theorem dX10_readWidow_106 : decode cX10_readWidow 106 = .ok (.goto (-20), 3) := by decide +kernel
theorem dX10_readWidow_109 : decode cX10_readWidow 109 = .ok (.aload_n 0, 1) := by decide +kernel
theorem dX10_readWidow_110 : decode cX10_readWidow 110 = .ok (.getfield 31, 3) := by decide +kernel
theorem dX10_readWidow_113 : decode cX10_readWidow 113 = .ok (.bipush 7, 2) := by decide +kernel
theorem dX10_readWidow_115 : decode cX10_readWidow 115 = .ok (.dup2, 1) := by decide +kernel
theorem dX10_readWidow_116 : decode cX10_readWidow 116 = .ok (.iaload, 1) := by decide +kernel
theorem dX10_readWidow_117 : decode cX10_readWidow 117 = .ok (.iconst 1, 1) := by decide +kernel
theorem dX10_readWidow_118 : decode cX10_readWidow 118 = .ok (.iadd, 1) := by decide +kernel
theorem dX10_readWidow_119 : decode cX10_readWidow 119 = .ok (.iastore, 1) := by decide +kernel
theorem dX10_readWidow_120 : decode cX10_readWidow 120 = .ok (.return_, 1) := by decide +kernel
set_option maxHeartbeats 4000000 in
set_option maxRecDepth 100000 in
theorem f_X10_readTurn (l : Launch) (G : va_G) (cI cJ cZ cB cQ : ClassId) (sz : Nat) (ad : AdS) (fm : Option Nat) (h0 : Nat) (p0 : Int32) (a0 : Int) (n0 : Int) (b : Nat → Nat) (o_thrown : Int32) (o_taped : Int32) (o_size : Int32) (o_at : Int32) (o_from : Int32) (o_token : Int32) (o_value : Int32) (o_faultKind : Int32) (o_faultPlace : Int32) (o_lawNow : Int32) (o_walkSet : Int32) (o_oneWidow : Int32) (o_oneTurn : Int32) (o_askWorst : Int32) (o_mayWalk : Int32) (o_oftenAll : Int64) (o_oftenRoad : Int64) (o_oftenPegs : Int64) (o_f4 : Nat → Int32) (o_f14 : Nat → Int32) (hp0 : p0.toInt = a0) (la0 : 28 ≤ a0) (ha0 : a0 ≤ 106) (hn : (o_f14 7).toInt = n0) (hk : a0 = 28 + 13 * n0) (h6 : n0 ≤ 6) (hn0 : 0 ≤ n0) (hl_o_taped : 0 ≤ o_taped.toInt) (hh_o_taped : o_taped.toInt ≤ 900) (hl_o_size : 0 ≤ o_size.toInt) (hh_o_size : o_size.toInt ≤ 900) (hl_o_at : 0 ≤ o_at.toInt) (hh_o_at : o_at.toInt ≤ 900) (hl_o_from : 0 ≤ o_from.toInt) (hh_o_from : o_from.toInt ≤ 900) (hl_o_oneTurn : 0 ≤ o_oneTurn.toInt) (hh_o_oneTurn : o_oneTurn.toInt ≤ 4) (ha_o_f14 : WB o_f14) : CVs l yX10_readTurn (wl_ yX10_readTurn cX10_readTurn 3 none) ({ frames := 6, cells := 0, slots := 0, locals := 128 } : Room) G (TY cI cJ cZ cB cQ) [.ref h0, .int p0] [(h0, oX10 b o_thrown o_taped o_size o_at o_from o_token o_value o_faultKind o_faultPlace o_lawNow o_walkSet o_oneWidow o_oneTurn o_askWorst o_mayWalk o_oftenAll o_oftenRoad o_oftenPegs), (b 4, .inl (cB, 900, .inl o_f4)), (b 14, .inl (cI, 149, .inl o_f14))] sz ad fm (fun (u : Int32 × Int32 × Int32 × Int32 × Int32 × Int32 × (Nat → Int32)) => 0 ≤ u.1.toInt ∧ u.1.toInt ≤ 900 ∧ 0 ≤ u.2.1.toInt ∧ u.2.1.toInt ≤ 900 ∧ WB u.2.2.2.2.2.2 ∧ o_at.toInt ≤ u.1.toInt ∧ (u.2.2.2.2.1.toInt = 0 → o_faultKind.toInt = 0) ∧ ag o_f14 u.2.2.2.2.2.2 (a0 + 4) ∧ (u.2.2.2.2.1.toInt = 0 → wv u.2.2.2.2.2.2 n0 4 = wv o_f14 n0 4 + 1)) (fun u : Int32 × Int32 × Int32 × Int32 × Int32 × Int32 × (Nat → Int32) => [(h0, oX10 b o_thrown o_taped o_size u.1 u.2.1 u.2.2.1 u.2.2.2.1 u.2.2.2.2.1 u.2.2.2.2.2.1 o_lawNow o_walkSet o_oneWidow o_oneTurn o_askWorst o_mayWalk o_oftenAll o_oftenRoad o_oftenPegs), (b 4, .inl (cB, 900, .inl o_f4)), (b 14, .inl (cI, 149, .inl u.2.2.2.2.2.2))]) 0 0 := by
  refine CVs.go (cc := cX10_readTurn) (maxL := 3) (ret := none) (by decide) rfl (Nat.le_of_ble_eq_true rfl) ?_
  intro p e s m below meth c A ls Q hBd hE hret
  obtain ⟨hx, hb, hr, hml, hts, hown, hlk, hnm, hP, hK, hD, hA, hZ, hl⟩ := hBd
  have hown : s.vm.findClass RX10 = some m.cls := hown
  have hl : lv_has ls 3 [(0, .ref h0), (1, .int p0)] := hl
  have hS : va_S A s.heap s.heap [] := va_S.rf
  refine lv_aload_n hx hb dX10_readTurn_0 rfl (lv_at hl 0 rfl) ?_
  refine k_i (wc := [(h0, oX10 b o_thrown o_taped o_size o_at o_from o_token o_value o_faultKind o_faultPlace o_lawNow o_walkSet o_oneWidow o_oneTurn o_askWorst o_mayWalk o_oftenAll o_oftenRoad o_oftenPegs), (b 4, .inl (cB, 900, .inl o_f4))]) (wr := [(b 14, .inl (cI, 149, .inl o_f14))]) hP hD hS hA [0, 1] [2] rfl rfl rfl (by decide) (va_runV (As := []) (rest := []) ⟨hx, hb, hml, hown, hts⟩ (f_X10_turnWord l G cI cJ cZ cB cQ _ ad fm h0 b o_thrown o_taped o_size o_at o_from o_token o_value o_faultKind o_faultPlace o_lawNow o_walkSet o_oneWidow o_oneTurn o_askWorst o_mayWalk o_oftenAll o_oftenRoad o_oftenPegs o_f4 hl_o_taped hh_o_taped hl_o_size hh_o_size hl_o_at hh_o_at hl_o_from hh_o_from hl_o_oneTurn hh_o_oneTurn) (cwV 0 hts (gV w_1448 w_1450 wp_100 w_11 w_1451) rfl rfl rfl ⟨rfl, hd_X10_turnWord⟩ ⟨Nat.le_of_ble_eq_true rfl, Nat.le_of_ble_eq_true rfl⟩) (mVs hK hZ hP hD hE hS hA [0, 1] rfl rfl [] 0 10 rfl rfl) rfl rfl hl.1 rfl (lv_room (Nat.le_of_ble_eq_true rfl)) dX10_readTurn_1 ⟨Nat.le_of_ble_eq_true rfl, Nat.le_of_ble_eq_true rfl⟩) (fun r1 u2 H locs hw3 hP hD hS => ?_)
  try dsimp only at hw3
  have hP : va_P G vwCl [(b 14, .inl (cI, 149, .inl o_f14)), (h0, oX10 b o_thrown o_taped o_size o_at o_from o_token o_value o_faultKind o_faultPlace o_lawNow o_walkSet o_oneWidow o_oneTurn o_askWorst o_mayWalk o_oftenAll o_oftenRoad o_oftenPegs), (b 4, .inl (cB, 900, .inl o_f4))] H := hP
  have hD : va_D A [(b 14, .inl (cI, 149, .inl o_f14)), (h0, oX10 b o_thrown o_taped o_size o_at o_from o_token o_value o_faultKind o_faultPlace o_lawNow o_walkSet o_oneWidow o_oneTurn o_askWorst o_mayWalk o_oftenAll o_oftenRoad o_oftenPegs), (b 4, .inl (cB, 900, .inl o_f4))] := hD
  obtain ⟨w4, w5⟩ : (-1) ≤ r1.toInt ∧ r1.toInt ≤ 3 := hw3
  refine lv_istore_n (lv' := [(2, .int r1), (0, .ref h0), (1, .int p0)]) hx hb dX10_readTurn_4 rfl hl (by decide) rfl (fun ls hl => ?_)
  refine lv_iload_n hx hb dX10_readTurn_5 rfl (lv_at hl 0 rfl) ?_
  refine lv_iconst (v := (-1)) hx hb dX10_readTurn_6 (by decide) ?_
  refine lv_icmp_ne (tgt := 15) hx hb dX10_readTurn_7 (by decide) (fun c6 => ?_) (fun c6 => ?_)
  · have c6 := i_ne rfl ki_m1 c6
    refine lv_aload_n hx hb dX10_readTurn_15 rfl (lv_at hl 1 rfl) ?_
    refine va_get (D := G) (ci := 10) (v := .ref (b 14)) (C := RX10) (T := TX10) (N := 46) hx hb hts iG_X10 hown hK hP 1 rfl rfl 14 (by decide) (hts _ w_1206) (fun _ h9 => h9) rfl dX10_readTurn_16 ?_
    refine lv_iload_n hx hb dX10_readTurn_19 rfl (lv_at hl 2 rfl) ?_
    refine lv_iconst (v := 4) hx hb dX10_readTurn_20 (by decide) ?_
    refine lv_iadd hx hb dX10_readTurn_21 ?_
    refine lv_topi (fun v7 ev7 => ?_)
    have tv7 : v7.toInt = a0 + 4 := ti_add hp0 ki_4 ev7 (by omega) (by omega)
    refine va_iald hx hb hK hP 0 0 rfl rfl (ix_in tv7 (by omega) (by omega)) dX10_readTurn_22 ?_
    refine lv_topi (fun v8 ev8 => ?_)
    have tv8 : v8.toInt = wv o_f14 n0 4 := wv_load tv7 (by omega) (by omega) ev8
    obtain ⟨ia9, ib10⟩ := wv_4 (a := n0) ha_o_f14 (by omega) (by omega)
    refine lv_bipush (v := 8) hx hb dX10_readTurn_23 (by decide) ?_
    refine lv_icmp_ne (tgt := 33) hx hb dX10_readTurn_25 (by decide) (fun c11 => ?_) (fun c11 => ?_)
    · have c11 := i_ne tv8 ki_8 c11
      refine lv_aload_n hx hb dX10_readTurn_33 rfl (lv_at hl 1 rfl) ?_
      refine k_i (wc := [(h0, oX10 b o_thrown o_taped o_size o_at o_from o_token o_value o_faultKind o_faultPlace o_lawNow o_walkSet o_oneWidow o_oneTurn o_askWorst o_mayWalk o_oftenAll o_oftenRoad o_oftenPegs)]) (wr := [(b 14, .inl (cI, 149, .inl o_f14)), (b 4, .inl (cB, 900, .inl o_f4))]) hP hD hS hA [1] [0, 2] rfl rfl rfl (by decide) (va_runV (As := []) (rest := []) ⟨hx, hb, hml, hown, hts⟩ (f_X10_good l G cI cJ cZ cB cQ _ h0 b o_thrown o_taped o_size o_at o_from o_token o_value o_faultKind o_faultPlace o_lawNow o_walkSet o_oneWidow o_oneTurn o_askWorst o_mayWalk o_oftenAll o_oftenRoad o_oftenPegs hl_o_taped hh_o_taped hl_o_size hh_o_size hl_o_at hh_o_at hl_o_from hh_o_from hl_o_oneTurn hh_o_oneTurn) (cwV 0 hts (gV w_1373 w_1375 wp_85 w_11 w_1376) rfl rfl rfl ⟨rfl, hd_X10_good⟩ ⟨Nat.le_of_ble_eq_true rfl, Nat.le_of_ble_eq_true rfl⟩) (mV hK hZ hP hD [1] rfl rfl [] 1 10 rfl rfl) rfl rfl hl.1 rfl (lv_room (Nat.le_of_ble_eq_true rfl)) dX10_readTurn_34 ⟨Nat.le_of_ble_eq_true rfl, Nat.le_of_ble_eq_true rfl⟩) (fun r12 u13 H locs hw14 hP hD hS => ?_)
      try dsimp only at hw14
      have hP : va_P G vwCl [(b 14, .inl (cI, 149, .inl o_f14)), (b 4, .inl (cB, 900, .inl o_f4)), (h0, oX10 b o_thrown o_taped o_size o_at o_from o_token o_value o_faultKind o_faultPlace o_lawNow o_walkSet o_oneWidow o_oneTurn o_askWorst o_mayWalk o_oftenAll o_oftenRoad o_oftenPegs)] H := hP
      have hD : va_D A [(b 14, .inl (cI, 149, .inl o_f14)), (b 4, .inl (cB, 900, .inl o_f4)), (h0, oX10 b o_thrown o_taped o_size o_at o_from o_token o_value o_faultKind o_faultPlace o_lawNow o_walkSet o_oneWidow o_oneTurn o_askWorst o_mayWalk o_oftenAll o_oftenRoad o_oftenPegs)] := hD
      rcases hw14 with ⟨rfl, a16⟩ | ⟨rfl, a17⟩
      · skip
        refine lv_if_ne (tgt := 41) hx hb dX10_readTurn_37 (by decide) (fun c18 => ?_) (fun c18 => absurd c18 (by decide))
        refine lv_aload_n hx hb dX10_readTurn_41 rfl (lv_at hl 1 rfl) ?_
        refine va_get (D := G) (ci := 10) (v := .ref (b 14)) (C := RX10) (T := TX10) (N := 46) hx hb hts iG_X10 hown hK hP 2 rfl rfl 14 (by decide) (hts _ w_1206) (fun _ h9 => h9) rfl dX10_readTurn_42 ?_
        refine lv_iload_n hx hb dX10_readTurn_45 rfl (lv_at hl 2 rfl) ?_
        refine lv_iconst (v := 5) hx hb dX10_readTurn_46 (by decide) ?_
        refine lv_iadd hx hb dX10_readTurn_47 ?_
        refine lv_topi (fun v19 ev19 => ?_)
        have tv19 : v19.toInt = a0 + 5 := ti_add hp0 ki_5 ev19 (by omega) (by omega)
        refine lv_aload_n hx hb dX10_readTurn_48 rfl (lv_at hl 1 rfl) ?_
        refine va_get (D := G) (ci := 10) (v := .ref (b 14)) (C := RX10) (T := TX10) (N := 46) hx hb hts iG_X10 hown hK hP 2 rfl rfl 14 (by decide) (hts _ w_1206) (fun _ h9 => h9) rfl dX10_readTurn_49 ?_
        refine lv_iload_n hx hb dX10_readTurn_52 rfl (lv_at hl 2 rfl) ?_
        refine lv_iconst (v := 4) hx hb dX10_readTurn_53 (by decide) ?_
        refine lv_iadd hx hb dX10_readTurn_54 ?_
        refine lv_topi (fun v20 ev20 => ?_)
        have tv20 : v20.toInt = a0 + 4 := ti_add hp0 ki_4 ev20 (by omega) (by omega)
        refine va_iald hx hb hK hP 0 0 rfl rfl (ix_in tv20 (by omega) (by omega)) dX10_readTurn_55 ?_
        refine lv_topi (fun v21 ev21 => ?_)
        have tv21 : v21.toInt = wv o_f14 n0 4 := wv_load tv20 (by omega) (by omega) ev21
        obtain ⟨ia22, ib23⟩ := wv_4 (a := n0) ha_o_f14 (by omega) (by omega)
        refine lv_iadd hx hb dX10_readTurn_56 ?_
        refine lv_topi (fun v24 ev24 => ?_)
        have tv24 : v24.toInt = a0 + 5 + (wv o_f14 n0 4) := ti_add tv19 tv21 ev24 (by omega) (by omega)
        refine lv_iload_n hx hb dX10_readTurn_57 rfl (lv_at hl 0 rfl) ?_
        refine va_iast hx hb hK hP hD hS 0 0 rfl rfl (ix_in tv24 (by omega) (by omega)) dX10_readTurn_58 (fun H locs hP hD hS => ?_)
        obtain ⟨f25, qf25⟩ : ∃ g, g = upd o_f14 v24.toNatClampNeg r1 := ⟨_, rfl⟩
        rw [← qf25] at hP hD
        have hb25 : WB f25 := by rw [qf25]; exact WB_putw n0 (5 + wv o_f14 n0 4) 3 ha_o_f14 tv24 (by omega) (by omega) (by omega) (by omega) (by omega) (tb_hi (by omega)) rfl (by omega) (by omega)
        have kf25_3 : (f25 3).toInt = (o_f14 3).toInt := by rw [qf25, pk_un (by rw [ix_nat tv24 (by omega)]; omega)]
        have kf25_4 : (f25 4).toInt = (o_f14 4).toInt := by rw [qf25, pk_un (by rw [ix_nat tv24 (by omega)]; omega)]
        have kf25_5 : (f25 5).toInt = (o_f14 5).toInt := by rw [qf25, pk_un (by rw [ix_nat tv24 (by omega)]; omega)]
        have kf25_6 : (f25 6).toInt = (o_f14 6).toInt := by rw [qf25, pk_un (by rw [ix_nat tv24 (by omega)]; omega)]
        have kf25_7 : (f25 7).toInt = (o_f14 7).toInt := by rw [qf25, pk_un (by rw [ix_nat tv24 (by omega)]; omega)]
        have kf25_9 : (f25 9).toInt = (o_f14 9).toInt := by rw [qf25, pk_un (by rw [ix_nat tv24 (by omega)]; omega)]
        have ag1 : ag o_f14 f25 (a0 + 5) := by rw [qf25]; exact ag_put ag_rf tv24 (by omega) (by omega)
        have e1 : wv f25 n0 4 = wv o_f14 n0 4 := wv_ag ag1 (by omega) (by omega)
        have hP : va_P G vwCl [(b 14, .inl (cI, 149, .inl f25)), (b 4, .inl (cB, 900, .inl o_f4)), (h0, oX10 b o_thrown o_taped o_size o_at o_from o_token o_value o_faultKind o_faultPlace o_lawNow o_walkSet o_oneWidow o_oneTurn o_askWorst o_mayWalk o_oftenAll o_oftenRoad o_oftenPegs)] H := hP
        have hD : va_D A [(b 14, .inl (cI, 149, .inl f25)), (b 4, .inl (cB, 900, .inl o_f4)), (h0, oX10 b o_thrown o_taped o_size o_at o_from o_token o_value o_faultKind o_faultPlace o_lawNow o_walkSet o_oneWidow o_oneTurn o_askWorst o_mayWalk o_oftenAll o_oftenRoad o_oftenPegs)] := hD
        refine lv_aload_n hx hb dX10_readTurn_59 rfl (lv_at hl 1 rfl) ?_
        refine va_get (D := G) (ci := 10) (v := .ref (b 14)) (C := RX10) (T := TX10) (N := 46) hx hb hts iG_X10 hown hK hP 2 rfl rfl 14 (by decide) (hts _ w_1206) (fun _ h9 => h9) rfl dX10_readTurn_60 ?_
        refine lv_iload_n hx hb dX10_readTurn_63 rfl (lv_at hl 2 rfl) ?_
        refine lv_iconst (v := 4) hx hb dX10_readTurn_64 (by decide) ?_
        refine lv_iadd hx hb dX10_readTurn_65 ?_
        refine lv_topi (fun v27 ev27 => ?_)
        have tv27 : v27.toInt = a0 + 4 := ti_add hp0 ki_4 ev27 (by omega) (by omega)
        refine lv_dup2_11 hx hb dX10_readTurn_66 rfl rfl ?_
        refine va_iald hx hb hK hP 0 0 rfl rfl (ix_in tv27 (by omega) (by omega)) dX10_readTurn_67 ?_
        refine lv_topi (fun v28 ev28 => ?_)
        have tv28 : v28.toInt = wv f25 n0 4 := wv_load tv27 (by omega) (by omega) ev28
        obtain ⟨ia29, ib30⟩ := wv_4 (a := n0) hb25 (by omega) (by omega)
        refine lv_iconst (v := 1) hx hb dX10_readTurn_68 (by decide) ?_
        refine lv_iadd hx hb dX10_readTurn_69 ?_
        refine lv_topi (fun v31 ev31 => ?_)
        have tv31 : v31.toInt = wv f25 n0 4 + 1 := ti_add tv28 ki_1 ev31 (by omega) (by omega)
        refine va_iast hx hb hK hP hD hS 0 0 rfl rfl (ix_in tv27 (by omega) (by omega)) dX10_readTurn_70 (fun H locs hP hD hS => ?_)
        obtain ⟨f32, qf32⟩ : ∃ g, g = upd f25 v27.toNatClampNeg v31 := ⟨_, rfl⟩
        rw [← qf32] at hP hD
        have hb32 : WB f32 := by rw [qf32]; exact WB_putw n0 4 8 hb25 tv27 (by omega) (by omega) (by omega) (by decide) (by decide) rfl tv31 (by omega) (by omega)
        have kf32_3 : (f32 3).toInt = (f25 3).toInt := by rw [qf32, pk_un (by rw [ix_nat tv27 (by omega)]; omega)]
        have kf32_4 : (f32 4).toInt = (f25 4).toInt := by rw [qf32, pk_un (by rw [ix_nat tv27 (by omega)]; omega)]
        have kf32_5 : (f32 5).toInt = (f25 5).toInt := by rw [qf32, pk_un (by rw [ix_nat tv27 (by omega)]; omega)]
        have kf32_6 : (f32 6).toInt = (f25 6).toInt := by rw [qf32, pk_un (by rw [ix_nat tv27 (by omega)]; omega)]
        have kf32_7 : (f32 7).toInt = (f25 7).toInt := by rw [qf32, pk_un (by rw [ix_nat tv27 (by omega)]; omega)]
        have kf32_9 : (f32 9).toInt = (f25 9).toInt := by rw [qf32, pk_un (by rw [ix_nat tv27 (by omega)]; omega)]
        have ag2 : ag o_f14 f32 (a0 + 4) := by rw [qf32]; exact ag_put (ag_le ag1 (by omega)) tv27 (by omega) (by omega)
        have e2 : wv f32 n0 4 = v31.toInt := by rw [qf32]; exact wv_put tv27 (by omega) (by omega)
        have hP : va_P G vwCl [(b 14, .inl (cI, 149, .inl f32)), (b 4, .inl (cB, 900, .inl o_f4)), (h0, oX10 b o_thrown o_taped o_size o_at o_from o_token o_value o_faultKind o_faultPlace o_lawNow o_walkSet o_oneWidow o_oneTurn o_askWorst o_mayWalk o_oftenAll o_oftenRoad o_oftenPegs)] H := hP
        have hD : va_D A [(b 14, .inl (cI, 149, .inl f32)), (b 4, .inl (cB, 900, .inl o_f4)), (h0, oX10 b o_thrown o_taped o_size o_at o_from o_token o_value o_faultKind o_faultPlace o_lawNow o_walkSet o_oneWidow o_oneTurn o_askWorst o_mayWalk o_oftenAll o_oftenRoad o_oftenPegs)] := hD
        refine lv_aload_n hx hb dX10_readTurn_71 rfl (lv_at hl 1 rfl) ?_
        refine k_v (wc := [(h0, oX10 b o_thrown o_taped o_size o_at o_from o_token o_value o_faultKind o_faultPlace o_lawNow o_walkSet o_oneWidow o_oneTurn o_askWorst o_mayWalk o_oftenAll o_oftenRoad o_oftenPegs), (b 4, .inl (cB, 900, .inl o_f4))]) (wr := [(b 14, .inl (cI, 149, .inl f32))]) hP hD hS hA [2, 1] [0] rfl rfl rfl (by decide) (va_runV (As := []) (rest := []) ⟨hx, hb, hml, hown, hts⟩ (f_X10_advance l G cI cJ cZ cB cQ _ h0 b o_thrown o_taped o_size o_at o_from o_token o_value o_faultKind o_faultPlace o_lawNow o_walkSet o_oneWidow o_oneTurn o_askWorst o_mayWalk o_oftenAll o_oftenRoad o_oftenPegs o_f4 hl_o_taped hh_o_taped hl_o_size hh_o_size hl_o_at hh_o_at hl_o_from hh_o_from hl_o_oneTurn hh_o_oneTurn) (cwV 0 hts (gV w_1359 w_1361 wp_83 w_11 w_1362) rfl rfl rfl ⟨rfl, hd_X10_advance⟩ ⟨Nat.le_of_ble_eq_true rfl, Nat.le_of_ble_eq_true rfl⟩) (mV hK hZ hP hD [2, 1] rfl rfl [] 2 10 rfl rfl) rfl rfl hl.1 rfl (lv_room (Nat.le_of_ble_eq_true rfl)) dX10_readTurn_72 ⟨Nat.le_of_ble_eq_true rfl, Nat.le_of_ble_eq_true rfl⟩) (fun u35 H locs hw36 hP hD hS => ?_)
        obtain ⟨o_ato37, o_fromo38, o_tokeno39, o_valueo40⟩ := u35
        try dsimp only at hw36
        have hP : va_P G vwCl [(b 14, .inl (cI, 149, .inl f32)), (h0, oX10 b o_thrown o_taped o_size o_ato37 o_fromo38 o_tokeno39 o_valueo40 o_faultKind o_faultPlace o_lawNow o_walkSet o_oneWidow o_oneTurn o_askWorst o_mayWalk o_oftenAll o_oftenRoad o_oftenPegs), (b 4, .inl (cB, 900, .inl o_f4))] H := hP
        have hD : va_D A [(b 14, .inl (cI, 149, .inl f32)), (h0, oX10 b o_thrown o_taped o_size o_ato37 o_fromo38 o_tokeno39 o_valueo40 o_faultKind o_faultPlace o_lawNow o_walkSet o_oneWidow o_oneTurn o_askWorst o_mayWalk o_oftenAll o_oftenRoad o_oftenPegs), (b 4, .inl (cB, 900, .inl o_f4))] := hD
        obtain ⟨w41, w42, w43, w44, w45, w46, w47⟩ : 0 ≤ o_ato37.toInt ∧ o_ato37.toInt ≤ 900 ∧ 0 ≤ o_fromo38.toInt ∧ o_fromo38.toInt ≤ 900 ∧ o_at.toInt ≤ o_fromo38.toInt ∧ o_fromo38.toInt ≤ o_ato37.toInt ∧ (o_tokeno39.toInt = 0 ∨ o_fromo38.toInt < o_ato37.toInt) := hw36
        exact hret _ _ _ _ (o_ato37, o_fromo38, o_tokeno39, o_valueo40, o_faultKind, o_faultPlace, f32) (hP.sub (ws' := [(h0, oX10 b o_thrown o_taped o_size o_ato37 o_fromo38 o_tokeno39 o_valueo40 o_faultKind o_faultPlace o_lawNow o_walkSet o_oneWidow o_oneTurn o_askWorst o_mayWalk o_oftenAll o_oftenRoad o_oftenPegs), (b 4, .inl (cB, 900, .inl o_f4)), (b 14, .inl (cI, 149, .inl f32))]) [1, 2, 0] rfl) (hD.sub (ws' := [(h0, oX10 b o_thrown o_taped o_size o_ato37 o_fromo38 o_tokeno39 o_valueo40 o_faultKind o_faultPlace o_lawNow o_walkSet o_oneWidow o_oneTurn o_askWorst o_mayWalk o_oftenAll o_oftenRoad o_oftenPegs), (b 4, .inl (cB, 900, .inl o_f4)), (b 14, .inl (cI, 149, .inl f32))]) [1, 2, 0] rfl rfl) hS dX10_readTurn_75 (show 0 ≤ o_ato37.toInt ∧ o_ato37.toInt ≤ 900 ∧ 0 ≤ o_fromo38.toInt ∧ o_fromo38.toInt ≤ 900 ∧ WB f32 ∧ o_at.toInt ≤ o_ato37.toInt ∧ (o_faultKind.toInt = 0 → o_faultKind.toInt = 0) ∧ ag o_f14 f32 (a0 + 4) ∧ (o_faultKind.toInt = 0 → wv f32 n0 4 = wv o_f14 n0 4 + 1) from ⟨w41, w42, w43, w44, hb32, (by omega), (by omega), ag2, (by omega)⟩)
      · skip
        refine lv_if_ne (tgt := 41) hx hb dX10_readTurn_37 (by decide) (fun c48 => absurd (by decide) c48) (fun c48 => ?_)
        exact hret _ _ _ _ (o_at, o_from, o_token, o_value, o_faultKind, o_faultPlace, o_f14) (hP.sub (ws' := [(h0, oX10 b o_thrown o_taped o_size o_at o_from o_token o_value o_faultKind o_faultPlace o_lawNow o_walkSet o_oneWidow o_oneTurn o_askWorst o_mayWalk o_oftenAll o_oftenRoad o_oftenPegs), (b 4, .inl (cB, 900, .inl o_f4)), (b 14, .inl (cI, 149, .inl o_f14))]) [2, 1, 0] rfl) (hD.sub (ws' := [(h0, oX10 b o_thrown o_taped o_size o_at o_from o_token o_value o_faultKind o_faultPlace o_lawNow o_walkSet o_oneWidow o_oneTurn o_askWorst o_mayWalk o_oftenAll o_oftenRoad o_oftenPegs), (b 4, .inl (cB, 900, .inl o_f4)), (b 14, .inl (cI, 149, .inl o_f14))]) [2, 1, 0] rfl rfl) hS dX10_readTurn_40 (show 0 ≤ o_at.toInt ∧ o_at.toInt ≤ 900 ∧ 0 ≤ o_from.toInt ∧ o_from.toInt ≤ 900 ∧ WB o_f14 ∧ o_at.toInt ≤ o_at.toInt ∧ (o_faultKind.toInt = 0 → o_faultKind.toInt = 0) ∧ ag o_f14 o_f14 (a0 + 4) ∧ (o_faultKind.toInt = 0 → wv o_f14 n0 4 = wv o_f14 n0 4 + 1) from ⟨hl_o_at, hh_o_at, hl_o_from, hh_o_from, ha_o_f14, (by omega), (by omega), ag_rf, (by omega)⟩)
    · have c11 := i_eq tv8 ki_8 c11
      refine lv_aload_n hx hb dX10_readTurn_28 rfl (lv_at hl 1 rfl) ?_
      refine lv_iconst (v := 3) hx hb dX10_readTurn_29 (by decide) ?_
      refine k_v (wc := [(h0, oX10 b o_thrown o_taped o_size o_at o_from o_token o_value o_faultKind o_faultPlace o_lawNow o_walkSet o_oneWidow o_oneTurn o_askWorst o_mayWalk o_oftenAll o_oftenRoad o_oftenPegs)]) (wr := [(b 14, .inl (cI, 149, .inl o_f14)), (b 4, .inl (cB, 900, .inl o_f4))]) hP hD hS hA [1] [0, 2] rfl rfl rfl (by decide) (va_runV (As := [.int 3]) (rest := []) ⟨hx, hb, hml, hown, hts⟩ (f_X10_errs l G cI cJ cZ cB cQ _ h0 3 3 b o_thrown o_taped o_size o_at o_from o_token o_value o_faultKind o_faultPlace o_lawNow o_walkSet o_oneWidow o_oneTurn o_askWorst o_mayWalk o_oftenAll o_oftenRoad o_oftenPegs ki_3 (by omega) hl_o_taped hh_o_taped hl_o_size hh_o_size hl_o_at hh_o_at hl_o_from hh_o_from hl_o_oneTurn hh_o_oneTurn) (cwV 1 hts (gV w_1400 w_1402 wp_91 w_11 w_1403) rfl rfl rfl ⟨rfl, hd_X10_errs⟩ ⟨Nat.le_of_ble_eq_true rfl, Nat.le_of_ble_eq_true rfl⟩) (mV hK hZ hP hD [1] rfl rfl [.int 3] 1 10 rfl rfl) rfl rfl hl.1 rfl (lv_room (Nat.le_of_ble_eq_true rfl)) dX10_readTurn_30 ⟨Nat.le_of_ble_eq_true rfl, Nat.le_of_ble_eq_true rfl⟩) (fun u50 H locs hw51 hP hD hS => ?_)
      obtain ⟨o_faultKindo52, o_faultPlaceo53⟩ := u50
      try dsimp only at hw51
      have hP : va_P G vwCl [(b 14, .inl (cI, 149, .inl o_f14)), (b 4, .inl (cB, 900, .inl o_f4)), (h0, oX10 b o_thrown o_taped o_size o_at o_from o_token o_value o_faultKindo52 o_faultPlaceo53 o_lawNow o_walkSet o_oneWidow o_oneTurn o_askWorst o_mayWalk o_oftenAll o_oftenRoad o_oftenPegs)] H := hP
      have hD : va_D A [(b 14, .inl (cI, 149, .inl o_f14)), (b 4, .inl (cB, 900, .inl o_f4)), (h0, oX10 b o_thrown o_taped o_size o_at o_from o_token o_value o_faultKindo52 o_faultPlaceo53 o_lawNow o_walkSet o_oneWidow o_oneTurn o_askWorst o_mayWalk o_oftenAll o_oftenRoad o_oftenPegs)] := hD
      have w54 : ¬ o_faultKindo52.toInt = 0 := hw51
      refine lv_aload_n hx hb dX10_readTurn_33 rfl (lv_at hl 1 rfl) ?_
      refine k_i (wc := [(h0, oX10 b o_thrown o_taped o_size o_at o_from o_token o_value o_faultKindo52 o_faultPlaceo53 o_lawNow o_walkSet o_oneWidow o_oneTurn o_askWorst o_mayWalk o_oftenAll o_oftenRoad o_oftenPegs)]) (wr := [(b 14, .inl (cI, 149, .inl o_f14)), (b 4, .inl (cB, 900, .inl o_f4))]) hP hD hS hA [2] [0, 1] rfl rfl rfl (by decide) (va_runV (As := []) (rest := []) ⟨hx, hb, hml, hown, hts⟩ (f_X10_good l G cI cJ cZ cB cQ _ h0 b o_thrown o_taped o_size o_at o_from o_token o_value o_faultKindo52 o_faultPlaceo53 o_lawNow o_walkSet o_oneWidow o_oneTurn o_askWorst o_mayWalk o_oftenAll o_oftenRoad o_oftenPegs hl_o_taped hh_o_taped hl_o_size hh_o_size hl_o_at hh_o_at hl_o_from hh_o_from hl_o_oneTurn hh_o_oneTurn) (cwV 0 hts (gV w_1373 w_1375 wp_85 w_11 w_1376) rfl rfl rfl ⟨rfl, hd_X10_good⟩ ⟨Nat.le_of_ble_eq_true rfl, Nat.le_of_ble_eq_true rfl⟩) (mV hK hZ hP hD [2] rfl rfl [] 2 10 rfl rfl) rfl rfl hl.1 rfl (lv_room (Nat.le_of_ble_eq_true rfl)) dX10_readTurn_34 ⟨Nat.le_of_ble_eq_true rfl, Nat.le_of_ble_eq_true rfl⟩) (fun r55 u56 H locs hw57 hP hD hS => ?_)
      try dsimp only at hw57
      have hP : va_P G vwCl [(b 14, .inl (cI, 149, .inl o_f14)), (b 4, .inl (cB, 900, .inl o_f4)), (h0, oX10 b o_thrown o_taped o_size o_at o_from o_token o_value o_faultKindo52 o_faultPlaceo53 o_lawNow o_walkSet o_oneWidow o_oneTurn o_askWorst o_mayWalk o_oftenAll o_oftenRoad o_oftenPegs)] H := hP
      have hD : va_D A [(b 14, .inl (cI, 149, .inl o_f14)), (b 4, .inl (cB, 900, .inl o_f4)), (h0, oX10 b o_thrown o_taped o_size o_at o_from o_token o_value o_faultKindo52 o_faultPlaceo53 o_lawNow o_walkSet o_oneWidow o_oneTurn o_askWorst o_mayWalk o_oftenAll o_oftenRoad o_oftenPegs)] := hD
      rcases hw57 with ⟨rfl, a59⟩ | ⟨rfl, a60⟩
      · exact absurd a59 (by omega)
      · skip
        refine lv_if_ne (tgt := 41) hx hb dX10_readTurn_37 (by decide) (fun c61 => absurd (by decide) c61) (fun c61 => ?_)
        exact hret _ _ _ _ (o_at, o_from, o_token, o_value, o_faultKindo52, o_faultPlaceo53, o_f14) (hP.sub (ws' := [(h0, oX10 b o_thrown o_taped o_size o_at o_from o_token o_value o_faultKindo52 o_faultPlaceo53 o_lawNow o_walkSet o_oneWidow o_oneTurn o_askWorst o_mayWalk o_oftenAll o_oftenRoad o_oftenPegs), (b 4, .inl (cB, 900, .inl o_f4)), (b 14, .inl (cI, 149, .inl o_f14))]) [2, 1, 0] rfl) (hD.sub (ws' := [(h0, oX10 b o_thrown o_taped o_size o_at o_from o_token o_value o_faultKindo52 o_faultPlaceo53 o_lawNow o_walkSet o_oneWidow o_oneTurn o_askWorst o_mayWalk o_oftenAll o_oftenRoad o_oftenPegs), (b 4, .inl (cB, 900, .inl o_f4)), (b 14, .inl (cI, 149, .inl o_f14))]) [2, 1, 0] rfl rfl) hS dX10_readTurn_40 (show 0 ≤ o_at.toInt ∧ o_at.toInt ≤ 900 ∧ 0 ≤ o_from.toInt ∧ o_from.toInt ≤ 900 ∧ WB o_f14 ∧ o_at.toInt ≤ o_at.toInt ∧ (o_faultKindo52.toInt = 0 → o_faultKind.toInt = 0) ∧ ag o_f14 o_f14 (a0 + 4) ∧ (o_faultKindo52.toInt = 0 → wv o_f14 n0 4 = wv o_f14 n0 4 + 1) from ⟨hl_o_at, hh_o_at, hl_o_from, hh_o_from, ha_o_f14, (by omega), (by omega), ag_rf, (by omega)⟩)
  · have c6 := i_eq rfl ki_m1 c6
    refine lv_aload_n hx hb dX10_readTurn_10 rfl (lv_at hl 1 rfl) ?_
    refine lv_iconst (v := 1) hx hb dX10_readTurn_11 (by decide) ?_
    refine k_v (wc := [(h0, oX10 b o_thrown o_taped o_size o_at o_from o_token o_value o_faultKind o_faultPlace o_lawNow o_walkSet o_oneWidow o_oneTurn o_askWorst o_mayWalk o_oftenAll o_oftenRoad o_oftenPegs)]) (wr := [(b 14, .inl (cI, 149, .inl o_f14)), (b 4, .inl (cB, 900, .inl o_f4))]) hP hD hS hA [1] [0, 2] rfl rfl rfl (by decide) (va_runV (As := [.int 1]) (rest := []) ⟨hx, hb, hml, hown, hts⟩ (f_X10_errs l G cI cJ cZ cB cQ _ h0 1 1 b o_thrown o_taped o_size o_at o_from o_token o_value o_faultKind o_faultPlace o_lawNow o_walkSet o_oneWidow o_oneTurn o_askWorst o_mayWalk o_oftenAll o_oftenRoad o_oftenPegs ki_1 (by omega) hl_o_taped hh_o_taped hl_o_size hh_o_size hl_o_at hh_o_at hl_o_from hh_o_from hl_o_oneTurn hh_o_oneTurn) (cwV 1 hts (gV w_1400 w_1402 wp_91 w_11 w_1403) rfl rfl rfl ⟨rfl, hd_X10_errs⟩ ⟨Nat.le_of_ble_eq_true rfl, Nat.le_of_ble_eq_true rfl⟩) (mV hK hZ hP hD [1] rfl rfl [.int 1] 1 10 rfl rfl) rfl rfl hl.1 rfl (lv_room (Nat.le_of_ble_eq_true rfl)) dX10_readTurn_12 ⟨Nat.le_of_ble_eq_true rfl, Nat.le_of_ble_eq_true rfl⟩) (fun u63 H locs hw64 hP hD hS => ?_)
    obtain ⟨o_faultKindo65, o_faultPlaceo66⟩ := u63
    try dsimp only at hw64
    have hP : va_P G vwCl [(b 14, .inl (cI, 149, .inl o_f14)), (b 4, .inl (cB, 900, .inl o_f4)), (h0, oX10 b o_thrown o_taped o_size o_at o_from o_token o_value o_faultKindo65 o_faultPlaceo66 o_lawNow o_walkSet o_oneWidow o_oneTurn o_askWorst o_mayWalk o_oftenAll o_oftenRoad o_oftenPegs)] H := hP
    have hD : va_D A [(b 14, .inl (cI, 149, .inl o_f14)), (b 4, .inl (cB, 900, .inl o_f4)), (h0, oX10 b o_thrown o_taped o_size o_at o_from o_token o_value o_faultKindo65 o_faultPlaceo66 o_lawNow o_walkSet o_oneWidow o_oneTurn o_askWorst o_mayWalk o_oftenAll o_oftenRoad o_oftenPegs)] := hD
    have w67 : ¬ o_faultKindo65.toInt = 0 := hw64
    refine lv_aload_n hx hb dX10_readTurn_15 rfl (lv_at hl 1 rfl) ?_
    refine va_get (D := G) (ci := 10) (v := .ref (b 14)) (C := RX10) (T := TX10) (N := 46) hx hb hts iG_X10 hown hK hP 2 rfl rfl 14 (by decide) (hts _ w_1206) (fun _ h9 => h9) rfl dX10_readTurn_16 ?_
    refine lv_iload_n hx hb dX10_readTurn_19 rfl (lv_at hl 2 rfl) ?_
    refine lv_iconst (v := 4) hx hb dX10_readTurn_20 (by decide) ?_
    refine lv_iadd hx hb dX10_readTurn_21 ?_
    refine lv_topi (fun v68 ev68 => ?_)
    have tv68 : v68.toInt = a0 + 4 := ti_add hp0 ki_4 ev68 (by omega) (by omega)
    refine va_iald hx hb hK hP 0 0 rfl rfl (ix_in tv68 (by omega) (by omega)) dX10_readTurn_22 ?_
    refine lv_topi (fun v69 ev69 => ?_)
    have tv69 : v69.toInt = wv o_f14 n0 4 := wv_load tv68 (by omega) (by omega) ev69
    obtain ⟨ia70, ib71⟩ := wv_4 (a := n0) ha_o_f14 (by omega) (by omega)
    refine lv_bipush (v := 8) hx hb dX10_readTurn_23 (by decide) ?_
    refine lv_icmp_ne (tgt := 33) hx hb dX10_readTurn_25 (by decide) (fun c72 => ?_) (fun c72 => ?_)
    · have c72 := i_ne tv69 ki_8 c72
      refine lv_aload_n hx hb dX10_readTurn_33 rfl (lv_at hl 1 rfl) ?_
      refine k_i (wc := [(h0, oX10 b o_thrown o_taped o_size o_at o_from o_token o_value o_faultKindo65 o_faultPlaceo66 o_lawNow o_walkSet o_oneWidow o_oneTurn o_askWorst o_mayWalk o_oftenAll o_oftenRoad o_oftenPegs)]) (wr := [(b 14, .inl (cI, 149, .inl o_f14)), (b 4, .inl (cB, 900, .inl o_f4))]) hP hD hS hA [2] [0, 1] rfl rfl rfl (by decide) (va_runV (As := []) (rest := []) ⟨hx, hb, hml, hown, hts⟩ (f_X10_good l G cI cJ cZ cB cQ _ h0 b o_thrown o_taped o_size o_at o_from o_token o_value o_faultKindo65 o_faultPlaceo66 o_lawNow o_walkSet o_oneWidow o_oneTurn o_askWorst o_mayWalk o_oftenAll o_oftenRoad o_oftenPegs hl_o_taped hh_o_taped hl_o_size hh_o_size hl_o_at hh_o_at hl_o_from hh_o_from hl_o_oneTurn hh_o_oneTurn) (cwV 0 hts (gV w_1373 w_1375 wp_85 w_11 w_1376) rfl rfl rfl ⟨rfl, hd_X10_good⟩ ⟨Nat.le_of_ble_eq_true rfl, Nat.le_of_ble_eq_true rfl⟩) (mV hK hZ hP hD [2] rfl rfl [] 2 10 rfl rfl) rfl rfl hl.1 rfl (lv_room (Nat.le_of_ble_eq_true rfl)) dX10_readTurn_34 ⟨Nat.le_of_ble_eq_true rfl, Nat.le_of_ble_eq_true rfl⟩) (fun r73 u74 H locs hw75 hP hD hS => ?_)
      try dsimp only at hw75
      have hP : va_P G vwCl [(b 14, .inl (cI, 149, .inl o_f14)), (b 4, .inl (cB, 900, .inl o_f4)), (h0, oX10 b o_thrown o_taped o_size o_at o_from o_token o_value o_faultKindo65 o_faultPlaceo66 o_lawNow o_walkSet o_oneWidow o_oneTurn o_askWorst o_mayWalk o_oftenAll o_oftenRoad o_oftenPegs)] H := hP
      have hD : va_D A [(b 14, .inl (cI, 149, .inl o_f14)), (b 4, .inl (cB, 900, .inl o_f4)), (h0, oX10 b o_thrown o_taped o_size o_at o_from o_token o_value o_faultKindo65 o_faultPlaceo66 o_lawNow o_walkSet o_oneWidow o_oneTurn o_askWorst o_mayWalk o_oftenAll o_oftenRoad o_oftenPegs)] := hD
      rcases hw75 with ⟨rfl, a77⟩ | ⟨rfl, a78⟩
      · exact absurd a77 (by omega)
      · skip
        refine lv_if_ne (tgt := 41) hx hb dX10_readTurn_37 (by decide) (fun c79 => absurd (by decide) c79) (fun c79 => ?_)
        exact hret _ _ _ _ (o_at, o_from, o_token, o_value, o_faultKindo65, o_faultPlaceo66, o_f14) (hP.sub (ws' := [(h0, oX10 b o_thrown o_taped o_size o_at o_from o_token o_value o_faultKindo65 o_faultPlaceo66 o_lawNow o_walkSet o_oneWidow o_oneTurn o_askWorst o_mayWalk o_oftenAll o_oftenRoad o_oftenPegs), (b 4, .inl (cB, 900, .inl o_f4)), (b 14, .inl (cI, 149, .inl o_f14))]) [2, 1, 0] rfl) (hD.sub (ws' := [(h0, oX10 b o_thrown o_taped o_size o_at o_from o_token o_value o_faultKindo65 o_faultPlaceo66 o_lawNow o_walkSet o_oneWidow o_oneTurn o_askWorst o_mayWalk o_oftenAll o_oftenRoad o_oftenPegs), (b 4, .inl (cB, 900, .inl o_f4)), (b 14, .inl (cI, 149, .inl o_f14))]) [2, 1, 0] rfl rfl) hS dX10_readTurn_40 (show 0 ≤ o_at.toInt ∧ o_at.toInt ≤ 900 ∧ 0 ≤ o_from.toInt ∧ o_from.toInt ≤ 900 ∧ WB o_f14 ∧ o_at.toInt ≤ o_at.toInt ∧ (o_faultKindo65.toInt = 0 → o_faultKind.toInt = 0) ∧ ag o_f14 o_f14 (a0 + 4) ∧ (o_faultKindo65.toInt = 0 → wv o_f14 n0 4 = wv o_f14 n0 4 + 1) from ⟨hl_o_at, hh_o_at, hl_o_from, hh_o_from, ha_o_f14, (by omega), (by omega), ag_rf, (by omega)⟩)
    · have c72 := i_eq tv69 ki_8 c72
      refine lv_aload_n hx hb dX10_readTurn_28 rfl (lv_at hl 1 rfl) ?_
      refine lv_iconst (v := 3) hx hb dX10_readTurn_29 (by decide) ?_
      refine k_v (wc := [(h0, oX10 b o_thrown o_taped o_size o_at o_from o_token o_value o_faultKindo65 o_faultPlaceo66 o_lawNow o_walkSet o_oneWidow o_oneTurn o_askWorst o_mayWalk o_oftenAll o_oftenRoad o_oftenPegs)]) (wr := [(b 14, .inl (cI, 149, .inl o_f14)), (b 4, .inl (cB, 900, .inl o_f4))]) hP hD hS hA [2] [0, 1] rfl rfl rfl (by decide) (va_runV (As := [.int 3]) (rest := []) ⟨hx, hb, hml, hown, hts⟩ (f_X10_errs l G cI cJ cZ cB cQ _ h0 3 3 b o_thrown o_taped o_size o_at o_from o_token o_value o_faultKindo65 o_faultPlaceo66 o_lawNow o_walkSet o_oneWidow o_oneTurn o_askWorst o_mayWalk o_oftenAll o_oftenRoad o_oftenPegs ki_3 (by omega) hl_o_taped hh_o_taped hl_o_size hh_o_size hl_o_at hh_o_at hl_o_from hh_o_from hl_o_oneTurn hh_o_oneTurn) (cwV 1 hts (gV w_1400 w_1402 wp_91 w_11 w_1403) rfl rfl rfl ⟨rfl, hd_X10_errs⟩ ⟨Nat.le_of_ble_eq_true rfl, Nat.le_of_ble_eq_true rfl⟩) (mV hK hZ hP hD [2] rfl rfl [.int 3] 2 10 rfl rfl) rfl rfl hl.1 rfl (lv_room (Nat.le_of_ble_eq_true rfl)) dX10_readTurn_30 ⟨Nat.le_of_ble_eq_true rfl, Nat.le_of_ble_eq_true rfl⟩) (fun u81 H locs hw82 hP hD hS => ?_)
      obtain ⟨o_faultKindo83, o_faultPlaceo84⟩ := u81
      try dsimp only at hw82
      have hP : va_P G vwCl [(b 14, .inl (cI, 149, .inl o_f14)), (b 4, .inl (cB, 900, .inl o_f4)), (h0, oX10 b o_thrown o_taped o_size o_at o_from o_token o_value o_faultKindo83 o_faultPlaceo84 o_lawNow o_walkSet o_oneWidow o_oneTurn o_askWorst o_mayWalk o_oftenAll o_oftenRoad o_oftenPegs)] H := hP
      have hD : va_D A [(b 14, .inl (cI, 149, .inl o_f14)), (b 4, .inl (cB, 900, .inl o_f4)), (h0, oX10 b o_thrown o_taped o_size o_at o_from o_token o_value o_faultKindo83 o_faultPlaceo84 o_lawNow o_walkSet o_oneWidow o_oneTurn o_askWorst o_mayWalk o_oftenAll o_oftenRoad o_oftenPegs)] := hD
      have w85 : ¬ o_faultKindo83.toInt = 0 := hw82
      refine lv_aload_n hx hb dX10_readTurn_33 rfl (lv_at hl 1 rfl) ?_
      refine k_i (wc := [(h0, oX10 b o_thrown o_taped o_size o_at o_from o_token o_value o_faultKindo83 o_faultPlaceo84 o_lawNow o_walkSet o_oneWidow o_oneTurn o_askWorst o_mayWalk o_oftenAll o_oftenRoad o_oftenPegs)]) (wr := [(b 14, .inl (cI, 149, .inl o_f14)), (b 4, .inl (cB, 900, .inl o_f4))]) hP hD hS hA [2] [0, 1] rfl rfl rfl (by decide) (va_runV (As := []) (rest := []) ⟨hx, hb, hml, hown, hts⟩ (f_X10_good l G cI cJ cZ cB cQ _ h0 b o_thrown o_taped o_size o_at o_from o_token o_value o_faultKindo83 o_faultPlaceo84 o_lawNow o_walkSet o_oneWidow o_oneTurn o_askWorst o_mayWalk o_oftenAll o_oftenRoad o_oftenPegs hl_o_taped hh_o_taped hl_o_size hh_o_size hl_o_at hh_o_at hl_o_from hh_o_from hl_o_oneTurn hh_o_oneTurn) (cwV 0 hts (gV w_1373 w_1375 wp_85 w_11 w_1376) rfl rfl rfl ⟨rfl, hd_X10_good⟩ ⟨Nat.le_of_ble_eq_true rfl, Nat.le_of_ble_eq_true rfl⟩) (mV hK hZ hP hD [2] rfl rfl [] 2 10 rfl rfl) rfl rfl hl.1 rfl (lv_room (Nat.le_of_ble_eq_true rfl)) dX10_readTurn_34 ⟨Nat.le_of_ble_eq_true rfl, Nat.le_of_ble_eq_true rfl⟩) (fun r86 u87 H locs hw88 hP hD hS => ?_)
      try dsimp only at hw88
      have hP : va_P G vwCl [(b 14, .inl (cI, 149, .inl o_f14)), (b 4, .inl (cB, 900, .inl o_f4)), (h0, oX10 b o_thrown o_taped o_size o_at o_from o_token o_value o_faultKindo83 o_faultPlaceo84 o_lawNow o_walkSet o_oneWidow o_oneTurn o_askWorst o_mayWalk o_oftenAll o_oftenRoad o_oftenPegs)] H := hP
      have hD : va_D A [(b 14, .inl (cI, 149, .inl o_f14)), (b 4, .inl (cB, 900, .inl o_f4)), (h0, oX10 b o_thrown o_taped o_size o_at o_from o_token o_value o_faultKindo83 o_faultPlaceo84 o_lawNow o_walkSet o_oneWidow o_oneTurn o_askWorst o_mayWalk o_oftenAll o_oftenRoad o_oftenPegs)] := hD
      rcases hw88 with ⟨rfl, a90⟩ | ⟨rfl, a91⟩
      · exact absurd a90 (by omega)
      · skip
        refine lv_if_ne (tgt := 41) hx hb dX10_readTurn_37 (by decide) (fun c92 => absurd (by decide) c92) (fun c92 => ?_)
        exact hret _ _ _ _ (o_at, o_from, o_token, o_value, o_faultKindo83, o_faultPlaceo84, o_f14) (hP.sub (ws' := [(h0, oX10 b o_thrown o_taped o_size o_at o_from o_token o_value o_faultKindo83 o_faultPlaceo84 o_lawNow o_walkSet o_oneWidow o_oneTurn o_askWorst o_mayWalk o_oftenAll o_oftenRoad o_oftenPegs), (b 4, .inl (cB, 900, .inl o_f4)), (b 14, .inl (cI, 149, .inl o_f14))]) [2, 1, 0] rfl) (hD.sub (ws' := [(h0, oX10 b o_thrown o_taped o_size o_at o_from o_token o_value o_faultKindo83 o_faultPlaceo84 o_lawNow o_walkSet o_oneWidow o_oneTurn o_askWorst o_mayWalk o_oftenAll o_oftenRoad o_oftenPegs), (b 4, .inl (cB, 900, .inl o_f4)), (b 14, .inl (cI, 149, .inl o_f14))]) [2, 1, 0] rfl rfl) hS dX10_readTurn_40 (show 0 ≤ o_at.toInt ∧ o_at.toInt ≤ 900 ∧ 0 ≤ o_from.toInt ∧ o_from.toInt ≤ 900 ∧ WB o_f14 ∧ o_at.toInt ≤ o_at.toInt ∧ (o_faultKindo83.toInt = 0 → o_faultKind.toInt = 0) ∧ ag o_f14 o_f14 (a0 + 4) ∧ (o_faultKindo83.toInt = 0 → wv o_f14 n0 4 = wv o_f14 n0 4 + 1) from ⟨hl_o_at, hh_o_at, hl_o_from, hh_o_from, ha_o_f14, (by omega), (by omega), ag_rf, (by omega)⟩)
set_option maxHeartbeats 4000000 in
set_option maxRecDepth 100000 in
theorem f_X10_readWidow (l : Launch) (G : va_G) (cI cJ cZ cB cQ : ClassId) (sz : Nat) (ad : AdS) (fm : Option Nat) (h0 : Nat) (b : Nat → Nat) (o_thrown : Int32) (o_taped : Int32) (o_size : Int32) (o_at : Int32) (o_from : Int32) (o_token : Int32) (o_value : Int32) (o_faultKind : Int32) (o_faultPlace : Int32) (o_lawNow : Int32) (o_walkSet : Int32) (o_oneWidow : Int32) (o_oneTurn : Int32) (o_askWorst : Int32) (o_mayWalk : Int32) (o_oftenAll : Int64) (o_oftenRoad : Int64) (o_oftenPegs : Int64) (o_f4 : Nat → Int32) (o_f14 : Nat → Int32) (hG : o_faultKind.toInt = 0 → WG o_f14) (h6 : (o_f14 7).toInt ≤ 6) (hl_o_taped : 0 ≤ o_taped.toInt) (hh_o_taped : o_taped.toInt ≤ 900) (hl_o_size : 0 ≤ o_size.toInt) (hh_o_size : o_size.toInt ≤ 900) (hl_o_at : 0 ≤ o_at.toInt) (hh_o_at : o_at.toInt ≤ 900) (hl_o_from : 0 ≤ o_from.toInt) (hh_o_from : o_from.toInt ≤ 900) (hl_o_oneTurn : 0 ≤ o_oneTurn.toInt) (hh_o_oneTurn : o_oneTurn.toInt ≤ 4) (ha_o_f14 : WB o_f14) : CVs l yX10_readWidow (wl_ yX10_readWidow cX10_readWidow 2 none) ({ frames := 8, cells := 0, slots := 0, locals := 174 } : Room) G (TY cI cJ cZ cB cQ) [.ref h0] [(h0, oX10 b o_thrown o_taped o_size o_at o_from o_token o_value o_faultKind o_faultPlace o_lawNow o_walkSet o_oneWidow o_oneTurn o_askWorst o_mayWalk o_oftenAll o_oftenRoad o_oftenPegs), (b 4, .inl (cB, 900, .inl o_f4)), (b 14, .inl (cI, 149, .inl o_f14))] sz ad fm (fun (u : Int32 × Int32 × Int32 × Int32 × Int32 × Int32 × (Nat → Int32)) => 0 ≤ u.1.toInt ∧ u.1.toInt ≤ 900 ∧ 0 ≤ u.2.1.toInt ∧ u.2.1.toInt ≤ 900 ∧ WB u.2.2.2.2.2.2 ∧ o_at.toInt ≤ u.1.toInt ∧ (u.2.2.2.2.1.toInt = 0 → o_faultKind.toInt = 0) ∧ (u.2.2.2.2.1.toInt = 0 → WG u.2.2.2.2.2.2) ∧ (u.2.2.2.2.2.2 9).toInt = (o_f14 9).toInt) (fun u : Int32 × Int32 × Int32 × Int32 × Int32 × Int32 × (Nat → Int32) => [(h0, oX10 b o_thrown o_taped o_size u.1 u.2.1 u.2.2.1 u.2.2.2.1 u.2.2.2.2.1 u.2.2.2.2.2.1 o_lawNow o_walkSet o_oneWidow o_oneTurn o_askWorst o_mayWalk o_oftenAll o_oftenRoad o_oftenPegs), (b 4, .inl (cB, 900, .inl o_f4)), (b 14, .inl (cI, 149, .inl u.2.2.2.2.2.2))]) 0 0 := by
  refine CVs.go (cc := cX10_readWidow) (maxL := 2) (ret := none) (by decide) rfl (Nat.le_of_ble_eq_true rfl) ?_
  intro p e s m below meth c A ls Q hBd hE hret
  obtain ⟨hx, hb, hr, hml, hts, hown, hlk, hnm, hP, hK, hD, hA, hZ, hl⟩ := hBd
  have hown : s.vm.findClass RX10 = some m.cls := hown
  have hl : lv_has ls 2 [(0, .ref h0)] := hl
  have hS : va_S A s.heap s.heap [] := va_S.rf
  refine lv_bipush (v := 28) hx hb dX10_readWidow_0 (by decide) ?_
  refine lv_bipush (v := 13) hx hb dX10_readWidow_2 (by decide) ?_
  refine lv_aload_n hx hb dX10_readWidow_4 rfl (lv_at hl 0 rfl) ?_
  refine va_get (D := G) (ci := 10) (v := .ref (b 14)) (C := RX10) (T := TX10) (N := 46) hx hb hts iG_X10 hown hK hP 0 rfl rfl 14 (by decide) (hts _ w_1206) (fun _ h9 => h9) rfl dX10_readWidow_5 ?_
  refine lv_bipush (v := 7) hx hb dX10_readWidow_8 (by decide) ?_
  refine va_iald hx hb hK hP 2 0 rfl rfl (ix_in ki_7 (by omega) (by omega)) dX10_readWidow_10 ?_
  refine lv_topi (fun v1 ev1 => ?_)
  have tv1 : v1.toInt = (o_f14 7).toInt := by rw [ev1]; rfl
  obtain ⟨ia2, ib3⟩ := WB_7 ha_o_f14
  refine lv_imul hx hb dX10_readWidow_11 ?_
  refine lv_topi (fun v4 ev4 => ?_)
  have tv4 : v4.toInt = 13 * ((o_f14 7).toInt) := ti_mul ki_13 tv1 ev4 (by omega) (by omega)
  refine lv_iadd hx hb dX10_readWidow_12 ?_
  refine lv_topi (fun v5 ev5 => ?_)
  have tv5 : v5.toInt = 28 + (13 * ((o_f14 7).toInt)) := ti_add ki_28 tv4 ev5 (by omega) (by omega)
  refine lv_istore_n (lv' := [(1, .int v5), (0, .ref h0)]) hx hb dX10_readWidow_13 rfl hl (by decide) rfl (fun ls hl => ?_)
  refine lv_aload_n hx hb dX10_readWidow_14 rfl (lv_at hl 1 rfl) ?_
  refine va_get (D := G) (ci := 10) (v := .ref (b 14)) (C := RX10) (T := TX10) (N := 46) hx hb hts iG_X10 hown hK hP 0 rfl rfl 14 (by decide) (hts _ w_1206) (fun _ h9 => h9) rfl dX10_readWidow_15 ?_
  refine lv_iload_n hx hb dX10_readWidow_18 rfl (lv_at hl 0 rfl) ?_
  refine lv_aload_n hx hb dX10_readWidow_19 rfl (lv_at hl 1 rfl) ?_
  refine lv_iconst (v := 0) hx hb dX10_readWidow_20 (by decide) ?_
  refine k_i (wc := [(h0, oX10 b o_thrown o_taped o_size o_at o_from o_token o_value o_faultKind o_faultPlace o_lawNow o_walkSet o_oneWidow o_oneTurn o_askWorst o_mayWalk o_oftenAll o_oftenRoad o_oftenPegs), (b 4, .inl (cB, 900, .inl o_f4)), (b 14, .inl (cI, 149, .inl o_f14))]) (wr := []) hP hD hS hA [0, 1, 2] [] rfl rfl rfl (by decide) (va_runV (As := [.int 0]) (rest := [.int v5, .ref (b 14)]) ⟨hx, hb, hml, hown, hts⟩ (f_X10_readCell l G cI cJ cZ cB cQ _ h0 0 0 b o_thrown o_taped o_size o_at o_from o_token o_value o_faultKind o_faultPlace o_lawNow o_walkSet o_oneWidow o_oneTurn o_askWorst o_mayWalk o_oftenAll o_oftenRoad o_oftenPegs o_f4 o_f14 ki_0 hl_o_taped hh_o_taped hl_o_size hh_o_size hl_o_at hh_o_at hl_o_from hh_o_from hl_o_oneTurn hh_o_oneTurn ha_o_f14) (cwV 1 hts (gV w_1428 w_1430 wp_96 w_11 w_1431) rfl rfl rfl ⟨rfl, hd_X10_readCell⟩ ⟨Nat.le_of_ble_eq_true rfl, Nat.le_of_ble_eq_true rfl⟩) (mV hK hZ hP hD [0, 1, 2] rfl rfl [.int 0] 0 10 rfl rfl) rfl rfl hl.1 rfl (lv_room (Nat.le_of_ble_eq_true rfl)) dX10_readWidow_21 ⟨Nat.le_of_ble_eq_true rfl, Nat.le_of_ble_eq_true rfl⟩) (fun r6 u7 H locs hw8 hP hD hS => ?_)
  obtain ⟨o_ato9, o_fromo10, o_tokeno11, o_valueo12, o_faultKindo13, o_faultPlaceo14⟩ := u7
  try dsimp only at hw8
  have hP : va_P G vwCl [(h0, oX10 b o_thrown o_taped o_size o_ato9 o_fromo10 o_tokeno11 o_valueo12 o_faultKindo13 o_faultPlaceo14 o_lawNow o_walkSet o_oneWidow o_oneTurn o_askWorst o_mayWalk o_oftenAll o_oftenRoad o_oftenPegs), (b 4, .inl (cB, 900, .inl o_f4)), (b 14, .inl (cI, 149, .inl o_f14))] H := hP
  have hD : va_D A [(h0, oX10 b o_thrown o_taped o_size o_ato9 o_fromo10 o_tokeno11 o_valueo12 o_faultKindo13 o_faultPlaceo14 o_lawNow o_walkSet o_oneWidow o_oneTurn o_askWorst o_mayWalk o_oftenAll o_oftenRoad o_oftenPegs), (b 4, .inl (cB, 900, .inl o_f4)), (b 14, .inl (cI, 149, .inl o_f14))] := hD
  obtain ⟨w15, w16, w17, w18, w19, w20, w21, w22, w23⟩ : 0 ≤ r6.toInt ∧ r6.toInt ≤ 77 ∧ 0 ≤ o_ato9.toInt ∧ o_ato9.toInt ≤ 900 ∧ 0 ≤ o_fromo10.toInt ∧ o_fromo10.toInt ≤ 900 ∧ o_at.toInt ≤ o_ato9.toInt ∧ (o_faultKindo13.toInt = 0 → o_faultKind.toInt = 0) ∧ (o_faultKindo13.toInt = 0 → r6.toInt / 10 < (o_f14 3).toInt ∧ r6.toInt % 10 < (o_f14 4).toInt) := hw8
  refine va_iast hx hb hK hP hD hS 2 0 rfl rfl (ix_in tv5 (by omega) (by omega)) dX10_readWidow_24 (fun H locs hP hD hS => ?_)
  obtain ⟨f24, qf24⟩ : ∃ g, g = upd o_f14 v5.toNatClampNeg r6 := ⟨_, rfl⟩
  rw [← qf24] at hP hD
  have hb24 : WB f24 := by rw [qf24]; exact WB_putw (o_f14 7).toInt 0 77 ha_o_f14 tv5 (by omega) (by omega) (by omega) (by decide) (by decide) rfl rfl (by omega) (by omega)
  have kf24_3 : (f24 3).toInt = (o_f14 3).toInt := by rw [qf24, pk_un (by rw [ix_nat tv5 (by omega)]; omega)]
  have kf24_4 : (f24 4).toInt = (o_f14 4).toInt := by rw [qf24, pk_un (by rw [ix_nat tv5 (by omega)]; omega)]
  have kf24_5 : (f24 5).toInt = (o_f14 5).toInt := by rw [qf24, pk_un (by rw [ix_nat tv5 (by omega)]; omega)]
  have kf24_6 : (f24 6).toInt = (o_f14 6).toInt := by rw [qf24, pk_un (by rw [ix_nat tv5 (by omega)]; omega)]
  have kf24_7 : (f24 7).toInt = (o_f14 7).toInt := by rw [qf24, pk_un (by rw [ix_nat tv5 (by omega)]; omega)]
  have kf24_9 : (f24 9).toInt = (o_f14 9).toInt := by rw [qf24, pk_un (by rw [ix_nat tv5 (by omega)]; omega)]
  have agA : ag o_f14 f24 (28 + 13 * (o_f14 7).toInt) := by rw [qf24]; exact ag_put ag_rf tv5 (by omega) (by omega)
  have e0 : wv f24 (o_f14 7).toInt 0 = r6.toInt := by rw [qf24]; exact wv_put tv5 (by omega) (by omega)
  have hP : va_P G vwCl [(h0, oX10 b o_thrown o_taped o_size o_ato9 o_fromo10 o_tokeno11 o_valueo12 o_faultKindo13 o_faultPlaceo14 o_lawNow o_walkSet o_oneWidow o_oneTurn o_askWorst o_mayWalk o_oftenAll o_oftenRoad o_oftenPegs), (b 4, .inl (cB, 900, .inl o_f4)), (b 14, .inl (cI, 149, .inl f24))] H := hP
  have hD : va_D A [(h0, oX10 b o_thrown o_taped o_size o_ato9 o_fromo10 o_tokeno11 o_valueo12 o_faultKindo13 o_faultPlaceo14 o_lawNow o_walkSet o_oneWidow o_oneTurn o_askWorst o_mayWalk o_oftenAll o_oftenRoad o_oftenPegs), (b 4, .inl (cB, 900, .inl o_f4)), (b 14, .inl (cI, 149, .inl f24))] := hD
  refine lv_aload_n hx hb dX10_readWidow_25 rfl (lv_at hl 1 rfl) ?_
  refine va_get (D := G) (ci := 10) (v := .ref (b 14)) (C := RX10) (T := TX10) (N := 46) hx hb hts iG_X10 hown hK hP 0 rfl rfl 14 (by decide) (hts _ w_1206) (fun _ h9 => h9) rfl dX10_readWidow_26 ?_
  refine lv_iload_n hx hb dX10_readWidow_29 rfl (lv_at hl 0 rfl) ?_
  refine lv_iconst (v := 1) hx hb dX10_readWidow_30 (by decide) ?_
  refine lv_iadd hx hb dX10_readWidow_31 ?_
  refine lv_topi (fun v26 ev26 => ?_)
  have tv26 : v26.toInt = 28 + (13 * ((o_f14 7).toInt)) + 1 := ti_add tv5 ki_1 ev26 (by omega) (by omega)
  refine lv_aload_n hx hb dX10_readWidow_32 rfl (lv_at hl 1 rfl) ?_
  refine va_ldcS hx hb hown (show vk_R "WidowRoadsModel" 230 "faces" (ad.1 26) s from hE.2.2.2 26 (by decide)) dX10_readWidow_33 ?_
  refine lv_iconst (v := 0) hx hb dX10_readWidow_35 (by decide) ?_
  refine lv_iconst (v := 3) hx hb dX10_readWidow_36 (by decide) ?_
  refine k_i (wc := [(h0, oX10 b o_thrown o_taped o_size o_ato9 o_fromo10 o_tokeno11 o_valueo12 o_faultKindo13 o_faultPlaceo14 o_lawNow o_walkSet o_oneWidow o_oneTurn o_askWorst o_mayWalk o_oftenAll o_oftenRoad o_oftenPegs), (b 4, .inl (cB, 900, .inl o_f4))]) (wr := [(b 14, .inl (cI, 149, .inl f24))]) hP hD hS hA [0, 1] [2] rfl rfl rfl (by decide) (va_runV (As := [.ref (ad.1 26), .int 0, .int 3]) (rest := [.int v26, .ref (b 14)]) ⟨hx, hb, hml, hown, hts⟩ (f_X10_toldBy l G cI cJ cZ cB cQ _ ad fm h0 26 0 0 3 3 b o_thrown o_taped o_size o_ato9 o_fromo10 o_tokeno11 o_valueo12 o_faultKindo13 o_faultPlaceo14 o_lawNow o_walkSet o_oneWidow o_oneTurn o_askWorst o_mayWalk o_oftenAll o_oftenRoad o_oftenPegs o_f4 (by decide) ki_0 ki_3 hl_o_taped hh_o_taped hl_o_size hh_o_size w17 w18 w19 w20 hl_o_oneTurn hh_o_oneTurn) (cwV 3 hts (gV w_1405 w_1407 wp_92 w_11 w_1408) rfl rfl rfl ⟨rfl, hd_X10_toldBy⟩ ⟨Nat.le_of_ble_eq_true rfl, Nat.le_of_ble_eq_true rfl⟩) (mVs hK hZ hP hD hE hS hA [0, 1] rfl rfl [.ref (ad.1 26), .int 0, .int 3] 0 10 rfl rfl) rfl rfl hl.1 rfl (lv_room (Nat.le_of_ble_eq_true rfl)) dX10_readWidow_37 ⟨Nat.le_of_ble_eq_true rfl, Nat.le_of_ble_eq_true rfl⟩) (fun r27 u28 H locs hw29 hP hD hS => ?_)
  obtain ⟨o_ato30, o_fromo31, o_tokeno32, o_valueo33, o_faultKindo34, o_faultPlaceo35⟩ := u28
  try dsimp only at hw29
  have hP : va_P G vwCl [(b 14, .inl (cI, 149, .inl f24)), (h0, oX10 b o_thrown o_taped o_size o_ato30 o_fromo31 o_tokeno32 o_valueo33 o_faultKindo34 o_faultPlaceo35 o_lawNow o_walkSet o_oneWidow o_oneTurn o_askWorst o_mayWalk o_oftenAll o_oftenRoad o_oftenPegs), (b 4, .inl (cB, 900, .inl o_f4))] H := hP
  have hD : va_D A [(b 14, .inl (cI, 149, .inl f24)), (h0, oX10 b o_thrown o_taped o_size o_ato30 o_fromo31 o_tokeno32 o_valueo33 o_faultKindo34 o_faultPlaceo35 o_lawNow o_walkSet o_oneWidow o_oneTurn o_askWorst o_mayWalk o_oftenAll o_oftenRoad o_oftenPegs), (b 4, .inl (cB, 900, .inl o_f4))] := hD
  obtain ⟨w36, w37, w38, w39, w40, w41⟩ : 0 ≤ o_ato30.toInt ∧ o_ato30.toInt ≤ 900 ∧ 0 ≤ o_fromo31.toInt ∧ o_fromo31.toInt ≤ 900 ∧ o_ato9.toInt ≤ o_ato30.toInt ∧ ((0 ≤ r27.toInt ∧ r27.toInt ≤ 3 ∧ o_faultKindo34.toInt = 0 ∧ o_faultKindo13.toInt = 0) ∨ (r27.toInt = 0 ∧ ¬ o_faultKindo34.toInt = 0)) := hw29
  refine va_iast hx hb hK hP hD hS 0 0 rfl rfl (ix_in tv26 (by omega) (by omega)) dX10_readWidow_40 (fun H locs hP hD hS => ?_)
  obtain ⟨f42, qf42⟩ : ∃ g, g = upd f24 v26.toNatClampNeg r27 := ⟨_, rfl⟩
  rw [← qf42] at hP hD
  have hb42 : WB f42 := by rw [qf42]; exact WB_putw (o_f14 7).toInt 1 3 hb24 tv26 (by omega) (by omega) (by omega) (by decide) (by decide) rfl rfl (by omega) (by omega)
  have kf42_3 : (f42 3).toInt = (f24 3).toInt := by rw [qf42, pk_un (by rw [ix_nat tv26 (by omega)]; omega)]
  have kf42_4 : (f42 4).toInt = (f24 4).toInt := by rw [qf42, pk_un (by rw [ix_nat tv26 (by omega)]; omega)]
  have kf42_5 : (f42 5).toInt = (f24 5).toInt := by rw [qf42, pk_un (by rw [ix_nat tv26 (by omega)]; omega)]
  have kf42_6 : (f42 6).toInt = (f24 6).toInt := by rw [qf42, pk_un (by rw [ix_nat tv26 (by omega)]; omega)]
  have kf42_7 : (f42 7).toInt = (f24 7).toInt := by rw [qf42, pk_un (by rw [ix_nat tv26 (by omega)]; omega)]
  have kf42_9 : (f42 9).toInt = (f24 9).toInt := by rw [qf42, pk_un (by rw [ix_nat tv26 (by omega)]; omega)]
  have agb44 : ag f24 f42 (28 + 13 * (o_f14 7).toInt + 1) := by rw [qf42]; exact ag_put (ag_rf : ag f24 f24 (28 + 13 * (o_f14 7).toInt + 1)) tv26 (by omega) (by omega)
  have hP : va_P G vwCl [(b 14, .inl (cI, 149, .inl f42)), (h0, oX10 b o_thrown o_taped o_size o_ato30 o_fromo31 o_tokeno32 o_valueo33 o_faultKindo34 o_faultPlaceo35 o_lawNow o_walkSet o_oneWidow o_oneTurn o_askWorst o_mayWalk o_oftenAll o_oftenRoad o_oftenPegs), (b 4, .inl (cB, 900, .inl o_f4))] H := hP
  have hD : va_D A [(b 14, .inl (cI, 149, .inl f42)), (h0, oX10 b o_thrown o_taped o_size o_ato30 o_fromo31 o_tokeno32 o_valueo33 o_faultKindo34 o_faultPlaceo35 o_lawNow o_walkSet o_oneWidow o_oneTurn o_askWorst o_mayWalk o_oftenAll o_oftenRoad o_oftenPegs), (b 4, .inl (cB, 900, .inl o_f4))] := hD
  refine lv_aload_n hx hb dX10_readWidow_41 rfl (lv_at hl 1 rfl) ?_
  refine va_get (D := G) (ci := 10) (v := .ref (b 14)) (C := RX10) (T := TX10) (N := 46) hx hb hts iG_X10 hown hK hP 1 rfl rfl 14 (by decide) (hts _ w_1206) (fun _ h9 => h9) rfl dX10_readWidow_42 ?_
  refine lv_iload_n hx hb dX10_readWidow_45 rfl (lv_at hl 0 rfl) ?_
  refine lv_iconst (v := 2) hx hb dX10_readWidow_46 (by decide) ?_
  refine lv_iadd hx hb dX10_readWidow_47 ?_
  refine lv_topi (fun v45 ev45 => ?_)
  have tv45 : v45.toInt = 28 + (13 * ((o_f14 7).toInt)) + 2 := ti_add tv5 ki_2 ev45 (by omega) (by omega)
  refine lv_aload_n hx hb dX10_readWidow_48 rfl (lv_at hl 1 rfl) ?_
  refine va_ldcS hx hb hown (show vk_R "WidowRoadsModel" 232 "steps" (ad.1 27) s from hE.2.2.2 27 (by decide)) dX10_readWidow_49 ?_
  refine lv_iconst (v := 1) hx hb dX10_readWidow_51 (by decide) ?_
  refine lv_bipush (v := 40) hx hb dX10_readWidow_52 (by decide) ?_
  refine k_i (wc := [(h0, oX10 b o_thrown o_taped o_size o_ato30 o_fromo31 o_tokeno32 o_valueo33 o_faultKindo34 o_faultPlaceo35 o_lawNow o_walkSet o_oneWidow o_oneTurn o_askWorst o_mayWalk o_oftenAll o_oftenRoad o_oftenPegs), (b 4, .inl (cB, 900, .inl o_f4))]) (wr := [(b 14, .inl (cI, 149, .inl f42))]) hP hD hS hA [1, 2] [0] rfl rfl rfl (by decide) (va_runV (As := [.ref (ad.1 27), .int 1, .int 40]) (rest := [.int v45, .ref (b 14)]) ⟨hx, hb, hml, hown, hts⟩ (f_X10_toldBy l G cI cJ cZ cB cQ _ ad fm h0 27 1 1 40 40 b o_thrown o_taped o_size o_ato30 o_fromo31 o_tokeno32 o_valueo33 o_faultKindo34 o_faultPlaceo35 o_lawNow o_walkSet o_oneWidow o_oneTurn o_askWorst o_mayWalk o_oftenAll o_oftenRoad o_oftenPegs o_f4 (by decide) ki_1 ki_40 hl_o_taped hh_o_taped hl_o_size hh_o_size w36 w37 w38 w39 hl_o_oneTurn hh_o_oneTurn) (cwV 3 hts (gV w_1405 w_1407 wp_92 w_11 w_1408) rfl rfl rfl ⟨rfl, hd_X10_toldBy⟩ ⟨Nat.le_of_ble_eq_true rfl, Nat.le_of_ble_eq_true rfl⟩) (mVs hK hZ hP hD hE hS hA [1, 2] rfl rfl [.ref (ad.1 27), .int 1, .int 40] 1 10 rfl rfl) rfl rfl hl.1 rfl (lv_room (Nat.le_of_ble_eq_true rfl)) dX10_readWidow_54 ⟨Nat.le_of_ble_eq_true rfl, Nat.le_of_ble_eq_true rfl⟩) (fun r46 u47 H locs hw48 hP hD hS => ?_)
  obtain ⟨o_ato49, o_fromo50, o_tokeno51, o_valueo52, o_faultKindo53, o_faultPlaceo54⟩ := u47
  try dsimp only at hw48
  have hP : va_P G vwCl [(b 14, .inl (cI, 149, .inl f42)), (h0, oX10 b o_thrown o_taped o_size o_ato49 o_fromo50 o_tokeno51 o_valueo52 o_faultKindo53 o_faultPlaceo54 o_lawNow o_walkSet o_oneWidow o_oneTurn o_askWorst o_mayWalk o_oftenAll o_oftenRoad o_oftenPegs), (b 4, .inl (cB, 900, .inl o_f4))] H := hP
  have hD : va_D A [(b 14, .inl (cI, 149, .inl f42)), (h0, oX10 b o_thrown o_taped o_size o_ato49 o_fromo50 o_tokeno51 o_valueo52 o_faultKindo53 o_faultPlaceo54 o_lawNow o_walkSet o_oneWidow o_oneTurn o_askWorst o_mayWalk o_oftenAll o_oftenRoad o_oftenPegs), (b 4, .inl (cB, 900, .inl o_f4))] := hD
  obtain ⟨w55, w56, w57, w58, w59, w60⟩ : 0 ≤ o_ato49.toInt ∧ o_ato49.toInt ≤ 900 ∧ 0 ≤ o_fromo50.toInt ∧ o_fromo50.toInt ≤ 900 ∧ o_ato30.toInt ≤ o_ato49.toInt ∧ ((1 ≤ r46.toInt ∧ r46.toInt ≤ 40 ∧ o_faultKindo53.toInt = 0 ∧ o_faultKindo34.toInt = 0) ∨ (r46.toInt = 0 ∧ ¬ o_faultKindo53.toInt = 0)) := hw48
  refine va_iast hx hb hK hP hD hS 0 0 rfl rfl (ix_in tv45 (by omega) (by omega)) dX10_readWidow_57 (fun H locs hP hD hS => ?_)
  obtain ⟨f61, qf61⟩ : ∃ g, g = upd f42 v45.toNatClampNeg r46 := ⟨_, rfl⟩
  rw [← qf61] at hP hD
  have hb61 : WB f61 := by rw [qf61]; exact WB_putw (o_f14 7).toInt 2 40 hb42 tv45 (by omega) (by omega) (by omega) (by decide) (by decide) rfl rfl (by omega) (by omega)
  have kf61_3 : (f61 3).toInt = (f42 3).toInt := by rw [qf61, pk_un (by rw [ix_nat tv45 (by omega)]; omega)]
  have kf61_4 : (f61 4).toInt = (f42 4).toInt := by rw [qf61, pk_un (by rw [ix_nat tv45 (by omega)]; omega)]
  have kf61_5 : (f61 5).toInt = (f42 5).toInt := by rw [qf61, pk_un (by rw [ix_nat tv45 (by omega)]; omega)]
  have kf61_6 : (f61 6).toInt = (f42 6).toInt := by rw [qf61, pk_un (by rw [ix_nat tv45 (by omega)]; omega)]
  have kf61_7 : (f61 7).toInt = (f42 7).toInt := by rw [qf61, pk_un (by rw [ix_nat tv45 (by omega)]; omega)]
  have kf61_9 : (f61 9).toInt = (f42 9).toInt := by rw [qf61, pk_un (by rw [ix_nat tv45 (by omega)]; omega)]
  have agb63 : ag f24 f61 (28 + 13 * (o_f14 7).toInt + 1) := by rw [qf61]; exact ag_put agb44 tv45 (by omega) (by omega)
  have hP : va_P G vwCl [(b 14, .inl (cI, 149, .inl f61)), (h0, oX10 b o_thrown o_taped o_size o_ato49 o_fromo50 o_tokeno51 o_valueo52 o_faultKindo53 o_faultPlaceo54 o_lawNow o_walkSet o_oneWidow o_oneTurn o_askWorst o_mayWalk o_oftenAll o_oftenRoad o_oftenPegs), (b 4, .inl (cB, 900, .inl o_f4))] H := hP
  have hD : va_D A [(b 14, .inl (cI, 149, .inl f61)), (h0, oX10 b o_thrown o_taped o_size o_ato49 o_fromo50 o_tokeno51 o_valueo52 o_faultKindo53 o_faultPlaceo54 o_lawNow o_walkSet o_oneWidow o_oneTurn o_askWorst o_mayWalk o_oftenAll o_oftenRoad o_oftenPegs), (b 4, .inl (cB, 900, .inl o_f4))] := hD
  refine lv_aload_n hx hb dX10_readWidow_58 rfl (lv_at hl 1 rfl) ?_
  refine va_get (D := G) (ci := 10) (v := .ref (b 14)) (C := RX10) (T := TX10) (N := 46) hx hb hts iG_X10 hown hK hP 1 rfl rfl 14 (by decide) (hts _ w_1206) (fun _ h9 => h9) rfl dX10_readWidow_59 ?_
  refine lv_iload_n hx hb dX10_readWidow_62 rfl (lv_at hl 0 rfl) ?_
  refine lv_iconst (v := 3) hx hb dX10_readWidow_63 (by decide) ?_
  refine lv_iadd hx hb dX10_readWidow_64 ?_
  refine lv_topi (fun v64 ev64 => ?_)
  have tv64 : v64.toInt = 28 + (13 * ((o_f14 7).toInt)) + 3 := ti_add tv5 ki_3 ev64 (by omega) (by omega)
  refine lv_aload_n hx hb dX10_readWidow_65 rfl (lv_at hl 1 rfl) ?_
  refine va_ldcS hx hb hown (show vk_R "WidowRoadsModel" 234 "at" (ad.1 28) s from hE.2.2.2 28 (by decide)) dX10_readWidow_66 ?_
  refine lv_iconst (v := 0) hx hb dX10_readWidow_68 (by decide) ?_
  refine lv_bipush (v := 11) hx hb dX10_readWidow_69 (by decide) ?_
  refine k_i (wc := [(h0, oX10 b o_thrown o_taped o_size o_ato49 o_fromo50 o_tokeno51 o_valueo52 o_faultKindo53 o_faultPlaceo54 o_lawNow o_walkSet o_oneWidow o_oneTurn o_askWorst o_mayWalk o_oftenAll o_oftenRoad o_oftenPegs), (b 4, .inl (cB, 900, .inl o_f4))]) (wr := [(b 14, .inl (cI, 149, .inl f61))]) hP hD hS hA [1, 2] [0] rfl rfl rfl (by decide) (va_runV (As := [.ref (ad.1 28), .int 0, .int 11]) (rest := [.int v64, .ref (b 14)]) ⟨hx, hb, hml, hown, hts⟩ (f_X10_toldBy l G cI cJ cZ cB cQ _ ad fm h0 28 0 0 11 11 b o_thrown o_taped o_size o_ato49 o_fromo50 o_tokeno51 o_valueo52 o_faultKindo53 o_faultPlaceo54 o_lawNow o_walkSet o_oneWidow o_oneTurn o_askWorst o_mayWalk o_oftenAll o_oftenRoad o_oftenPegs o_f4 (by decide) ki_0 ki_11 hl_o_taped hh_o_taped hl_o_size hh_o_size w55 w56 w57 w58 hl_o_oneTurn hh_o_oneTurn) (cwV 3 hts (gV w_1405 w_1407 wp_92 w_11 w_1408) rfl rfl rfl ⟨rfl, hd_X10_toldBy⟩ ⟨Nat.le_of_ble_eq_true rfl, Nat.le_of_ble_eq_true rfl⟩) (mVs hK hZ hP hD hE hS hA [1, 2] rfl rfl [.ref (ad.1 28), .int 0, .int 11] 1 10 rfl rfl) rfl rfl hl.1 rfl (lv_room (Nat.le_of_ble_eq_true rfl)) dX10_readWidow_71 ⟨Nat.le_of_ble_eq_true rfl, Nat.le_of_ble_eq_true rfl⟩) (fun r65 u66 H locs hw67 hP hD hS => ?_)
  obtain ⟨o_ato68, o_fromo69, o_tokeno70, o_valueo71, o_faultKindo72, o_faultPlaceo73⟩ := u66
  try dsimp only at hw67
  have hP : va_P G vwCl [(b 14, .inl (cI, 149, .inl f61)), (h0, oX10 b o_thrown o_taped o_size o_ato68 o_fromo69 o_tokeno70 o_valueo71 o_faultKindo72 o_faultPlaceo73 o_lawNow o_walkSet o_oneWidow o_oneTurn o_askWorst o_mayWalk o_oftenAll o_oftenRoad o_oftenPegs), (b 4, .inl (cB, 900, .inl o_f4))] H := hP
  have hD : va_D A [(b 14, .inl (cI, 149, .inl f61)), (h0, oX10 b o_thrown o_taped o_size o_ato68 o_fromo69 o_tokeno70 o_valueo71 o_faultKindo72 o_faultPlaceo73 o_lawNow o_walkSet o_oneWidow o_oneTurn o_askWorst o_mayWalk o_oftenAll o_oftenRoad o_oftenPegs), (b 4, .inl (cB, 900, .inl o_f4))] := hD
  obtain ⟨w74, w75, w76, w77, w78, w79⟩ : 0 ≤ o_ato68.toInt ∧ o_ato68.toInt ≤ 900 ∧ 0 ≤ o_fromo69.toInt ∧ o_fromo69.toInt ≤ 900 ∧ o_ato49.toInt ≤ o_ato68.toInt ∧ ((0 ≤ r65.toInt ∧ r65.toInt ≤ 11 ∧ o_faultKindo72.toInt = 0 ∧ o_faultKindo53.toInt = 0) ∨ (r65.toInt = 0 ∧ ¬ o_faultKindo72.toInt = 0)) := hw67
  refine va_iast hx hb hK hP hD hS 0 0 rfl rfl (ix_in tv64 (by omega) (by omega)) dX10_readWidow_74 (fun H locs hP hD hS => ?_)
  obtain ⟨f80, qf80⟩ : ∃ g, g = upd f61 v64.toNatClampNeg r65 := ⟨_, rfl⟩
  rw [← qf80] at hP hD
  have hb80 : WB f80 := by rw [qf80]; exact WB_putw (o_f14 7).toInt 3 11 hb61 tv64 (by omega) (by omega) (by omega) (by decide) (by decide) rfl rfl (by omega) (by omega)
  have kf80_3 : (f80 3).toInt = (f61 3).toInt := by rw [qf80, pk_un (by rw [ix_nat tv64 (by omega)]; omega)]
  have kf80_4 : (f80 4).toInt = (f61 4).toInt := by rw [qf80, pk_un (by rw [ix_nat tv64 (by omega)]; omega)]
  have kf80_5 : (f80 5).toInt = (f61 5).toInt := by rw [qf80, pk_un (by rw [ix_nat tv64 (by omega)]; omega)]
  have kf80_6 : (f80 6).toInt = (f61 6).toInt := by rw [qf80, pk_un (by rw [ix_nat tv64 (by omega)]; omega)]
  have kf80_7 : (f80 7).toInt = (f61 7).toInt := by rw [qf80, pk_un (by rw [ix_nat tv64 (by omega)]; omega)]
  have kf80_9 : (f80 9).toInt = (f61 9).toInt := by rw [qf80, pk_un (by rw [ix_nat tv64 (by omega)]; omega)]
  have agb82 : ag f24 f80 (28 + 13 * (o_f14 7).toInt + 1) := by rw [qf80]; exact ag_put agb63 tv64 (by omega) (by omega)
  have hP : va_P G vwCl [(b 14, .inl (cI, 149, .inl f80)), (h0, oX10 b o_thrown o_taped o_size o_ato68 o_fromo69 o_tokeno70 o_valueo71 o_faultKindo72 o_faultPlaceo73 o_lawNow o_walkSet o_oneWidow o_oneTurn o_askWorst o_mayWalk o_oftenAll o_oftenRoad o_oftenPegs), (b 4, .inl (cB, 900, .inl o_f4))] H := hP
  have hD : va_D A [(b 14, .inl (cI, 149, .inl f80)), (h0, oX10 b o_thrown o_taped o_size o_ato68 o_fromo69 o_tokeno70 o_valueo71 o_faultKindo72 o_faultPlaceo73 o_lawNow o_walkSet o_oneWidow o_oneTurn o_askWorst o_mayWalk o_oftenAll o_oftenRoad o_oftenPegs), (b 4, .inl (cB, 900, .inl o_f4))] := hD
  refine lv_aload_n hx hb dX10_readWidow_75 rfl (lv_at hl 1 rfl) ?_
  refine va_ldcS hx hb hown (show vk_R "WidowRoadsModel" 235 "grief" (ad.1 29) s from hE.2.2.2 29 (by decide)) dX10_readWidow_76 ?_
  refine k_v (wc := [(h0, oX10 b o_thrown o_taped o_size o_ato68 o_fromo69 o_tokeno70 o_valueo71 o_faultKindo72 o_faultPlaceo73 o_lawNow o_walkSet o_oneWidow o_oneTurn o_askWorst o_mayWalk o_oftenAll o_oftenRoad o_oftenPegs), (b 4, .inl (cB, 900, .inl o_f4))]) (wr := [(b 14, .inl (cI, 149, .inl f80))]) hP hD hS hA [1, 2] [0] rfl rfl rfl (by decide) (va_runV (As := [.ref (ad.1 29)]) (rest := []) ⟨hx, hb, hml, hown, hts⟩ (f_X10_expects l G cI cJ cZ cB cQ _ ad fm h0 29 b o_thrown o_taped o_size o_ato68 o_fromo69 o_tokeno70 o_valueo71 o_faultKindo72 o_faultPlaceo73 o_lawNow o_walkSet o_oneWidow o_oneTurn o_askWorst o_mayWalk o_oftenAll o_oftenRoad o_oftenPegs o_f4 (by decide) hl_o_taped hh_o_taped hl_o_size hh_o_size w74 w75 w76 w77 hl_o_oneTurn hh_o_oneTurn) (cwV 1 hts (gV w_1386 w_1388 wp_88 w_11 w_1389) rfl rfl rfl ⟨rfl, hd_X10_expects⟩ ⟨Nat.le_of_ble_eq_true rfl, Nat.le_of_ble_eq_true rfl⟩) (mVs hK hZ hP hD hE hS hA [1, 2] rfl rfl [.ref (ad.1 29)] 1 10 rfl rfl) rfl rfl hl.1 rfl (lv_room (Nat.le_of_ble_eq_true rfl)) dX10_readWidow_78 ⟨Nat.le_of_ble_eq_true rfl, Nat.le_of_ble_eq_true rfl⟩) (fun u84 H locs hw85 hP hD hS => ?_)
  obtain ⟨o_ato86, o_fromo87, o_tokeno88, o_valueo89, o_faultKindo90, o_faultPlaceo91⟩ := u84
  try dsimp only at hw85
  have hP : va_P G vwCl [(b 14, .inl (cI, 149, .inl f80)), (h0, oX10 b o_thrown o_taped o_size o_ato86 o_fromo87 o_tokeno88 o_valueo89 o_faultKindo90 o_faultPlaceo91 o_lawNow o_walkSet o_oneWidow o_oneTurn o_askWorst o_mayWalk o_oftenAll o_oftenRoad o_oftenPegs), (b 4, .inl (cB, 900, .inl o_f4))] H := hP
  have hD : va_D A [(b 14, .inl (cI, 149, .inl f80)), (h0, oX10 b o_thrown o_taped o_size o_ato86 o_fromo87 o_tokeno88 o_valueo89 o_faultKindo90 o_faultPlaceo91 o_lawNow o_walkSet o_oneWidow o_oneTurn o_askWorst o_mayWalk o_oftenAll o_oftenRoad o_oftenPegs), (b 4, .inl (cB, 900, .inl o_f4))] := hD
  obtain ⟨w92, w93, w94, w95, w96, w97⟩ : 0 ≤ o_ato86.toInt ∧ o_ato86.toInt ≤ 900 ∧ 0 ≤ o_fromo87.toInt ∧ o_fromo87.toInt ≤ 900 ∧ o_ato68.toInt ≤ o_ato86.toInt ∧ (o_faultKindo90.toInt = 0 → o_faultKindo72.toInt = 0) := hw85
  refine lv_aload_n hx hb dX10_readWidow_81 rfl (lv_at hl 1 rfl) ?_
  refine lv_iload_n hx hb dX10_readWidow_82 rfl (lv_at hl 0 rfl) ?_
  refine k_v (wc := [(h0, oX10 b o_thrown o_taped o_size o_ato86 o_fromo87 o_tokeno88 o_valueo89 o_faultKindo90 o_faultPlaceo91 o_lawNow o_walkSet o_oneWidow o_oneTurn o_askWorst o_mayWalk o_oftenAll o_oftenRoad o_oftenPegs), (b 4, .inl (cB, 900, .inl o_f4)), (b 14, .inl (cI, 149, .inl f80))]) (wr := []) hP hD hS hA [1, 2, 0] [] rfl rfl rfl (by decide) (va_runV (As := [.int v5]) (rest := []) ⟨hx, hb, hml, hown, hts⟩ (f_X10_readTurn l G cI cJ cZ cB cQ _ ad fm h0 v5 (28 + (13 * ((o_f14 7).toInt))) ((o_f14 7).toInt) b o_thrown o_taped o_size o_ato86 o_fromo87 o_tokeno88 o_valueo89 o_faultKindo90 o_faultPlaceo91 o_lawNow o_walkSet o_oneWidow o_oneTurn o_askWorst o_mayWalk o_oftenAll o_oftenRoad o_oftenPegs o_f4 f80 tv5 (by omega) (by omega) (by omega) (by omega) (by omega) (by omega) hl_o_taped hh_o_taped hl_o_size hh_o_size w92 w93 w94 w95 hl_o_oneTurn hh_o_oneTurn hb80) (cwV 1 hts (gV w_1444 w_1446 wp_99 w_11 w_1447) rfl rfl rfl ⟨rfl, hd_X10_readTurn⟩ ⟨Nat.le_of_ble_eq_true rfl, Nat.le_of_ble_eq_true rfl⟩) (mVs hK hZ hP hD hE hS hA [1, 2, 0] rfl rfl [.int v5] 1 10 rfl rfl) rfl rfl hl.1 rfl (lv_room (Nat.le_of_ble_eq_true rfl)) dX10_readWidow_83 ⟨Nat.le_of_ble_eq_true rfl, Nat.le_of_ble_eq_true rfl⟩) (fun u99 H locs hw100 hP hD hS => ?_)
  obtain ⟨o_ato101, o_fromo102, o_tokeno103, o_valueo104, o_faultKindo105, o_faultPlaceo106, o_f14o107⟩ := u99
  try dsimp only at hw100
  have hP : va_P G vwCl [(h0, oX10 b o_thrown o_taped o_size o_ato101 o_fromo102 o_tokeno103 o_valueo104 o_faultKindo105 o_faultPlaceo106 o_lawNow o_walkSet o_oneWidow o_oneTurn o_askWorst o_mayWalk o_oftenAll o_oftenRoad o_oftenPegs), (b 4, .inl (cB, 900, .inl o_f4)), (b 14, .inl (cI, 149, .inl o_f14o107))] H := hP
  have hD : va_D A [(h0, oX10 b o_thrown o_taped o_size o_ato101 o_fromo102 o_tokeno103 o_valueo104 o_faultKindo105 o_faultPlaceo106 o_lawNow o_walkSet o_oneWidow o_oneTurn o_askWorst o_mayWalk o_oftenAll o_oftenRoad o_oftenPegs), (b 4, .inl (cB, 900, .inl o_f4)), (b 14, .inl (cI, 149, .inl o_f14o107))] := hD
  obtain ⟨w108, w109, w110, w111, w112, w113, w114, w115, w116⟩ : 0 ≤ o_ato101.toInt ∧ o_ato101.toInt ≤ 900 ∧ 0 ≤ o_fromo102.toInt ∧ o_fromo102.toInt ≤ 900 ∧ WB o_f14o107 ∧ o_ato86.toInt ≤ o_ato101.toInt ∧ (o_faultKindo105.toInt = 0 → o_faultKindo90.toInt = 0) ∧ ag f80 o_f14o107 ((28 + (13 * ((o_f14 7).toInt))) + 4) ∧ (o_faultKindo105.toInt = 0 → wv o_f14o107 ((o_f14 7).toInt) 4 = wv f80 ((o_f14 7).toInt) 4 + 1) := hw100
  obtain ⟨ia117, ib118⟩ := wv_4 (a := (o_f14 7).toInt) hb80 (by omega) (by omega)
  have ko_f14o107_3 : (o_f14o107 3).toInt = (f80 3).toInt := by rw [w115 3 (by omega)]
  have ko_f14o107_4 : (o_f14o107 4).toInt = (f80 4).toInt := by rw [w115 4 (by omega)]
  have ko_f14o107_7 : (o_f14o107 7).toInt = (f80 7).toInt := by rw [w115 7 (by omega)]
  have ko_f14o107_9 : (o_f14o107 9).toInt = (f80 9).toInt := by rw [w115 9 (by omega)]
  have agb119 : ag f24 o_f14o107 (28 + 13 * (o_f14 7).toInt + 1) := ag_tr agb82 (ag_le w115 (by omega))
  have lp120 : ∀ (n121 : Nat) (z122 : Int32) (z123 : Int32) (z124 : Int32) (z125 : Int32) (z126 : Int32) (z127 : Int32) (g128 : Nat → Int32), 0 ≤ z126.toInt → z126.toInt ≤ 900 → 0 ≤ z127.toInt → z127.toInt ≤ 900 → WB g128 → ag f24 g128 (28 + 13 * (o_f14 7).toInt + 1) → (g128 7).toInt = (o_f14 7).toInt → (z124.toInt = 0 → 1 ≤ wv g128 (o_f14 7).toInt 4) → (z124.toInt = 0 → o_faultKindo13.toInt = 0) → o_at.toInt ≤ z126.toInt → (g128 9).toInt = (o_f14 9).toInt → ms z124 (wv g128 (o_f14 7).toInt 4) < (n121 : Int) → ∀ (H : Heap) (locs : List Loc), va_P G vwCl [(h0, oX10 b o_thrown o_taped o_size z126 z127 z122 z123 z124 z125 o_lawNow o_walkSet o_oneWidow o_oneTurn o_askWorst o_mayWalk o_oftenAll o_oftenRoad o_oftenPegs), (b 4, .inl (cB, 900, .inl o_f4)), (b 14, .inl (cI, 149, .inl g128))] H → va_D A [(h0, oX10 b o_thrown o_taped o_size z126 z127 z122 z123 z124 z125 o_lawNow o_walkSet o_oneWidow o_oneTurn o_askWorst o_mayWalk o_oftenAll o_oftenRoad o_oftenPegs), (b 4, .inl (cB, 900, .inl o_f4)), (b 14, .inl (cI, 149, .inl g128))] → va_S A s.heap H locs → ∀ (ls : Array Slot), lv_has ls 2 [(1, .int v5), (0, .ref h0)] → W p l e ({ frames := 8, cells := 0, slots := 0, locals := 174 } : Room) s m ([.ref h0] : List Value).toArray below meth c H locs 0 0 Q (F0 m 86 ls []) := by
    intro n121
    induction n121 with
    | zero =>
      intro z122 z123 z124 z125 z126 z127 g128 k129 k130 k131 k132 k133 rl133_0 rl133_1 rl133_2 rl133_3 rl133_4 rl133_5 mm135
      exact absurd mm135 (by have q9 := ms_nn z124 (wv g128 (o_f14 7).toInt 4); omega)
    | succ n121 ih134 =>
      intro z122 z123 z124 z125 z126 z127 g128 k129 k130 k131 k132 k133 rl133_0 rl133_1 rl133_2 rl133_3 rl133_4 rl133_5 mm135 H locs hP hD hS ls hl
      refine lv_aload_n hx hb dX10_readWidow_86 rfl (lv_at hl 1 rfl) ?_
      refine k_i (wc := [(h0, oX10 b o_thrown o_taped o_size z126 z127 z122 z123 z124 z125 o_lawNow o_walkSet o_oneWidow o_oneTurn o_askWorst o_mayWalk o_oftenAll o_oftenRoad o_oftenPegs)]) (wr := [(b 4, .inl (cB, 900, .inl o_f4)), (b 14, .inl (cI, 149, .inl g128))]) hP hD hS hA [0] [1, 2] rfl rfl rfl (by decide) (va_runV (As := []) (rest := []) ⟨hx, hb, hml, hown, hts⟩ (f_X10_good l G cI cJ cZ cB cQ _ h0 b o_thrown o_taped o_size z126 z127 z122 z123 z124 z125 o_lawNow o_walkSet o_oneWidow o_oneTurn o_askWorst o_mayWalk o_oftenAll o_oftenRoad o_oftenPegs hl_o_taped hh_o_taped hl_o_size hh_o_size k129 k130 k131 k132 hl_o_oneTurn hh_o_oneTurn) (cwV 0 hts (gV w_1373 w_1375 wp_85 w_11 w_1376) rfl rfl rfl ⟨rfl, hd_X10_good⟩ ⟨Nat.le_of_ble_eq_true rfl, Nat.le_of_ble_eq_true rfl⟩) (mV hK hZ hP hD [0] rfl rfl [] 0 10 rfl rfl) rfl rfl hl.1 rfl (lv_room (Nat.le_of_ble_eq_true rfl)) dX10_readWidow_87 ⟨Nat.le_of_ble_eq_true rfl, Nat.le_of_ble_eq_true rfl⟩) (fun r136 u137 H locs hw138 hP hD hS => ?_)
      try dsimp only at hw138
      have hP : va_P G vwCl [(b 4, .inl (cB, 900, .inl o_f4)), (b 14, .inl (cI, 149, .inl g128)), (h0, oX10 b o_thrown o_taped o_size z126 z127 z122 z123 z124 z125 o_lawNow o_walkSet o_oneWidow o_oneTurn o_askWorst o_mayWalk o_oftenAll o_oftenRoad o_oftenPegs)] H := hP
      have hD : va_D A [(b 4, .inl (cB, 900, .inl o_f4)), (b 14, .inl (cI, 149, .inl g128)), (h0, oX10 b o_thrown o_taped o_size z126 z127 z122 z123 z124 z125 o_lawNow o_walkSet o_oneWidow o_oneTurn o_askWorst o_mayWalk o_oftenAll o_oftenRoad o_oftenPegs)] := hD
      rcases hw138 with ⟨rfl, a140⟩ | ⟨rfl, a141⟩
      · skip
        refine lv_if_eq (tgt := 109) hx hb dX10_readWidow_90 (by decide) (fun c142 => absurd c142 (by decide)) (fun c142 => ?_)
        refine lv_aload_n hx hb dX10_readWidow_93 rfl (lv_at hl 1 rfl) ?_
        refine va_get (D := G) (ci := 10) (v := .int z122) (C := RX10) (T := TX10) (N := 46) hx hb hts iG_X10 hown hK hP 2 rfl rfl 10 (by decide) (hts _ w_1202) (fun _ h9 => h9) rfl dX10_readWidow_94 ?_
        refine lv_iconst (v := 3) hx hb dX10_readWidow_97 (by decide) ?_
        refine lv_icmp_eq (tgt := 109) hx hb dX10_readWidow_98 (by decide) (fun c143 => ?_) (fun c143 => ?_)
        · have c143 := i_eq rfl ki_3 c143
          refine lv_aload_n hx hb dX10_readWidow_109 rfl (lv_at hl 1 rfl) ?_
          refine va_get (D := G) (ci := 10) (v := .ref (b 14)) (C := RX10) (T := TX10) (N := 46) hx hb hts iG_X10 hown hK hP 2 rfl rfl 14 (by decide) (hts _ w_1206) (fun _ h9 => h9) rfl dX10_readWidow_110 ?_
          refine lv_bipush (v := 7) hx hb dX10_readWidow_113 (by decide) ?_
          refine lv_dup2_11 hx hb dX10_readWidow_115 rfl rfl ?_
          refine va_iald hx hb hK hP 1 0 rfl rfl (ix_in ki_7 (by omega) (by omega)) dX10_readWidow_116 ?_
          refine lv_topi (fun v144 ev144 => ?_)
          have tv144 : v144.toInt = (g128 7).toInt := by rw [ev144]; rfl
          obtain ⟨ia145, ib146⟩ := WB_7 k133
          refine lv_iconst (v := 1) hx hb dX10_readWidow_117 (by decide) ?_
          refine lv_iadd hx hb dX10_readWidow_118 ?_
          refine lv_topi (fun v147 ev147 => ?_)
          have tv147 : v147.toInt = (g128 7).toInt + 1 := ti_add tv144 ki_1 ev147 (by omega) (by omega)
          refine va_iast hx hb hK hP hD hS 1 0 rfl rfl (ix_in ki_7 (by omega) (by omega)) dX10_readWidow_119 (fun H locs hP hD hS => ?_)
          obtain ⟨f148, qf148⟩ : ∃ g, g = upd g128 (7 : Int32).toNatClampNeg v147 := ⟨_, rfl⟩
          rw [← qf148] at hP hD
          have hb148 : WB f148 := by rw [qf148]; exact WB_putc 7 7 k133 rfl rfl (by decide) tv147 (by omega) (by omega)
          have kf148_3 : (f148 3).toInt = (g128 3).toInt := by rw [qf148, pk_un (by decide)]
          have kf148_4 : (f148 4).toInt = (g128 4).toInt := by rw [qf148, pk_un (by decide)]
          have kf148_5 : (f148 5).toInt = (g128 5).toInt := by rw [qf148, pk_un (by decide)]
          have kf148_6 : (f148 6).toInt = (g128 6).toInt := by rw [qf148, pk_un (by decide)]
          have kf148_7 : (f148 7).toInt = (g128 7).toInt + 1 := by rw [qf148]; exact tv147
          have kf148_9 : (f148 9).toInt = (g128 9).toInt := by rw [qf148, pk_un (by decide)]
          have hP : va_P G vwCl [(b 4, .inl (cB, 900, .inl o_f4)), (b 14, .inl (cI, 149, .inl f148)), (h0, oX10 b o_thrown o_taped o_size z126 z127 z122 z123 z124 z125 o_lawNow o_walkSet o_oneWidow o_oneTurn o_askWorst o_mayWalk o_oftenAll o_oftenRoad o_oftenPegs)] H := hP
          have hD : va_D A [(b 4, .inl (cB, 900, .inl o_f4)), (b 14, .inl (cI, 149, .inl f148)), (h0, oX10 b o_thrown o_taped o_size z126 z127 z122 z123 z124 z125 o_lawNow o_walkSet o_oneWidow o_oneTurn o_askWorst o_mayWalk o_oftenAll o_oftenRoad o_oftenPegs)] := hD
          exact hret _ _ _ _ (z126, z127, z122, z123, z124, z125, f148) (hP.sub (ws' := [(h0, oX10 b o_thrown o_taped o_size z126 z127 z122 z123 z124 z125 o_lawNow o_walkSet o_oneWidow o_oneTurn o_askWorst o_mayWalk o_oftenAll o_oftenRoad o_oftenPegs), (b 4, .inl (cB, 900, .inl o_f4)), (b 14, .inl (cI, 149, .inl f148))]) [2, 0, 1] rfl) (hD.sub (ws' := [(h0, oX10 b o_thrown o_taped o_size z126 z127 z122 z123 z124 z125 o_lawNow o_walkSet o_oneWidow o_oneTurn o_askWorst o_mayWalk o_oftenAll o_oftenRoad o_oftenPegs), (b 4, .inl (cB, 900, .inl o_f4)), (b 14, .inl (cI, 149, .inl f148))]) [2, 0, 1] rfl rfl) hS dX10_readWidow_120 (show 0 ≤ z126.toInt ∧ z126.toInt ≤ 900 ∧ 0 ≤ z127.toInt ∧ z127.toInt ≤ 900 ∧ WB f148 ∧ o_at.toInt ≤ z126.toInt ∧ (z124.toInt = 0 → o_faultKind.toInt = 0) ∧ (z124.toInt = 0 → WG f148) ∧ (f148 9).toInt = (o_f14 9).toInt from ⟨k129, k130, k131, k132, hb148, (by omega), (by omega), (fun q9 => by rw [qf148]; exact WG_next (hG (by omega)) (ag_tr agA (ag_le rl133_0 (by omega))) (by omega) (by omega) (rl133_2 q9) (by have q1 := w23 (by omega); have q2 := wv_ag (a := (o_f14 7).toInt) (b := 0) rl133_0 (by omega) (by omega); omega) (by have q1 := w23 (by omega); have q2 := wv_ag (a := (o_f14 7).toInt) (b := 0) rl133_0 (by omega) (by omega); omega) rfl (by rw [tv147]; omega)), (by omega)⟩)
        · have c143 := i_ne rfl ki_3 c143
          refine lv_aload_n hx hb dX10_readWidow_101 rfl (lv_at hl 1 rfl) ?_
          refine lv_iload_n hx hb dX10_readWidow_102 rfl (lv_at hl 0 rfl) ?_
          refine k_v (wc := [(h0, oX10 b o_thrown o_taped o_size z126 z127 z122 z123 z124 z125 o_lawNow o_walkSet o_oneWidow o_oneTurn o_askWorst o_mayWalk o_oftenAll o_oftenRoad o_oftenPegs), (b 4, .inl (cB, 900, .inl o_f4)), (b 14, .inl (cI, 149, .inl g128))]) (wr := []) hP hD hS hA [2, 0, 1] [] rfl rfl rfl (by decide) (va_runV (As := [.int v5]) (rest := []) ⟨hx, hb, hml, hown, hts⟩ (f_X10_readTurn l G cI cJ cZ cB cQ _ ad fm h0 v5 (28 + (13 * ((o_f14 7).toInt))) ((o_f14 7).toInt) b o_thrown o_taped o_size z126 z127 z122 z123 z124 z125 o_lawNow o_walkSet o_oneWidow o_oneTurn o_askWorst o_mayWalk o_oftenAll o_oftenRoad o_oftenPegs o_f4 g128 tv5 (by omega) (by omega) (by omega) (by omega) (by omega) (by omega) hl_o_taped hh_o_taped hl_o_size hh_o_size k129 k130 k131 k132 hl_o_oneTurn hh_o_oneTurn k133) (cwV 1 hts (gV w_1444 w_1446 wp_99 w_11 w_1447) rfl rfl rfl ⟨rfl, hd_X10_readTurn⟩ ⟨Nat.le_of_ble_eq_true rfl, Nat.le_of_ble_eq_true rfl⟩) (mVs hK hZ hP hD hE hS hA [2, 0, 1] rfl rfl [.int v5] 2 10 rfl rfl) rfl rfl hl.1 rfl (lv_room (Nat.le_of_ble_eq_true rfl)) dX10_readWidow_103 ⟨Nat.le_of_ble_eq_true rfl, Nat.le_of_ble_eq_true rfl⟩) (fun u151 H locs hw152 hP hD hS => ?_)
          obtain ⟨o_ato153, o_fromo154, o_tokeno155, o_valueo156, o_faultKindo157, o_faultPlaceo158, o_f14o159⟩ := u151
          try dsimp only at hw152
          have hP : va_P G vwCl [(h0, oX10 b o_thrown o_taped o_size o_ato153 o_fromo154 o_tokeno155 o_valueo156 o_faultKindo157 o_faultPlaceo158 o_lawNow o_walkSet o_oneWidow o_oneTurn o_askWorst o_mayWalk o_oftenAll o_oftenRoad o_oftenPegs), (b 4, .inl (cB, 900, .inl o_f4)), (b 14, .inl (cI, 149, .inl o_f14o159))] H := hP
          have hD : va_D A [(h0, oX10 b o_thrown o_taped o_size o_ato153 o_fromo154 o_tokeno155 o_valueo156 o_faultKindo157 o_faultPlaceo158 o_lawNow o_walkSet o_oneWidow o_oneTurn o_askWorst o_mayWalk o_oftenAll o_oftenRoad o_oftenPegs), (b 4, .inl (cB, 900, .inl o_f4)), (b 14, .inl (cI, 149, .inl o_f14o159))] := hD
          obtain ⟨w160, w161, w162, w163, w164, w165, w166, w167, w168⟩ : 0 ≤ o_ato153.toInt ∧ o_ato153.toInt ≤ 900 ∧ 0 ≤ o_fromo154.toInt ∧ o_fromo154.toInt ≤ 900 ∧ WB o_f14o159 ∧ z126.toInt ≤ o_ato153.toInt ∧ (o_faultKindo157.toInt = 0 → z124.toInt = 0) ∧ ag g128 o_f14o159 ((28 + (13 * ((o_f14 7).toInt))) + 4) ∧ (o_faultKindo157.toInt = 0 → wv o_f14o159 ((o_f14 7).toInt) 4 = wv g128 ((o_f14 7).toInt) 4 + 1) := hw152
          obtain ⟨ia169, ib170⟩ := wv_4 (a := (o_f14 7).toInt) k133 (by omega) (by omega)
          have ko_f14o159_3 : (o_f14o159 3).toInt = (g128 3).toInt := by rw [w167 3 (by omega)]
          have ko_f14o159_4 : (o_f14o159 4).toInt = (g128 4).toInt := by rw [w167 4 (by omega)]
          have ko_f14o159_7 : (o_f14o159 7).toInt = (g128 7).toInt := by rw [w167 7 (by omega)]
          have ko_f14o159_9 : (o_f14o159 9).toInt = (g128 9).toInt := by rw [w167 9 (by omega)]
          have agb171 : ag f24 o_f14o159 (28 + 13 * (o_f14 7).toInt + 1) := ag_tr rl133_0 (ag_le w167 (by omega))
          refine lv_goto (tgt := 86) hx hb dX10_readWidow_106 (by decide) ?_
          exact ih134 o_tokeno155 o_valueo156 o_faultKindo157 o_faultPlaceo158 o_ato153 o_fromo154 o_f14o159 w160 w161 w162 w163 w164 agb171 (by omega) (by omega) (by omega) (by omega) (by omega) (ms_dn (by omega) w168 (by omega) mm135) _ _ hP hD hS ls (lv_sub hl [0, 1] rfl)
      · skip
        refine lv_if_eq (tgt := 109) hx hb dX10_readWidow_90 (by decide) (fun c172 => ?_) (fun c172 => absurd (by decide) c172)
        refine lv_aload_n hx hb dX10_readWidow_109 rfl (lv_at hl 1 rfl) ?_
        refine va_get (D := G) (ci := 10) (v := .ref (b 14)) (C := RX10) (T := TX10) (N := 46) hx hb hts iG_X10 hown hK hP 2 rfl rfl 14 (by decide) (hts _ w_1206) (fun _ h9 => h9) rfl dX10_readWidow_110 ?_
        refine lv_bipush (v := 7) hx hb dX10_readWidow_113 (by decide) ?_
        refine lv_dup2_11 hx hb dX10_readWidow_115 rfl rfl ?_
        refine va_iald hx hb hK hP 1 0 rfl rfl (ix_in ki_7 (by omega) (by omega)) dX10_readWidow_116 ?_
        refine lv_topi (fun v173 ev173 => ?_)
        have tv173 : v173.toInt = (g128 7).toInt := by rw [ev173]; rfl
        obtain ⟨ia174, ib175⟩ := WB_7 k133
        refine lv_iconst (v := 1) hx hb dX10_readWidow_117 (by decide) ?_
        refine lv_iadd hx hb dX10_readWidow_118 ?_
        refine lv_topi (fun v176 ev176 => ?_)
        have tv176 : v176.toInt = (g128 7).toInt + 1 := ti_add tv173 ki_1 ev176 (by omega) (by omega)
        refine va_iast hx hb hK hP hD hS 1 0 rfl rfl (ix_in ki_7 (by omega) (by omega)) dX10_readWidow_119 (fun H locs hP hD hS => ?_)
        obtain ⟨f177, qf177⟩ : ∃ g, g = upd g128 (7 : Int32).toNatClampNeg v176 := ⟨_, rfl⟩
        rw [← qf177] at hP hD
        have hb177 : WB f177 := by rw [qf177]; exact WB_putc 7 7 k133 rfl rfl (by decide) tv176 (by omega) (by omega)
        have kf177_3 : (f177 3).toInt = (g128 3).toInt := by rw [qf177, pk_un (by decide)]
        have kf177_4 : (f177 4).toInt = (g128 4).toInt := by rw [qf177, pk_un (by decide)]
        have kf177_5 : (f177 5).toInt = (g128 5).toInt := by rw [qf177, pk_un (by decide)]
        have kf177_6 : (f177 6).toInt = (g128 6).toInt := by rw [qf177, pk_un (by decide)]
        have kf177_7 : (f177 7).toInt = (g128 7).toInt + 1 := by rw [qf177]; exact tv176
        have kf177_9 : (f177 9).toInt = (g128 9).toInt := by rw [qf177, pk_un (by decide)]
        have hP : va_P G vwCl [(b 4, .inl (cB, 900, .inl o_f4)), (b 14, .inl (cI, 149, .inl f177)), (h0, oX10 b o_thrown o_taped o_size z126 z127 z122 z123 z124 z125 o_lawNow o_walkSet o_oneWidow o_oneTurn o_askWorst o_mayWalk o_oftenAll o_oftenRoad o_oftenPegs)] H := hP
        have hD : va_D A [(b 4, .inl (cB, 900, .inl o_f4)), (b 14, .inl (cI, 149, .inl f177)), (h0, oX10 b o_thrown o_taped o_size z126 z127 z122 z123 z124 z125 o_lawNow o_walkSet o_oneWidow o_oneTurn o_askWorst o_mayWalk o_oftenAll o_oftenRoad o_oftenPegs)] := hD
        exact hret _ _ _ _ (z126, z127, z122, z123, z124, z125, f177) (hP.sub (ws' := [(h0, oX10 b o_thrown o_taped o_size z126 z127 z122 z123 z124 z125 o_lawNow o_walkSet o_oneWidow o_oneTurn o_askWorst o_mayWalk o_oftenAll o_oftenRoad o_oftenPegs), (b 4, .inl (cB, 900, .inl o_f4)), (b 14, .inl (cI, 149, .inl f177))]) [2, 0, 1] rfl) (hD.sub (ws' := [(h0, oX10 b o_thrown o_taped o_size z126 z127 z122 z123 z124 z125 o_lawNow o_walkSet o_oneWidow o_oneTurn o_askWorst o_mayWalk o_oftenAll o_oftenRoad o_oftenPegs), (b 4, .inl (cB, 900, .inl o_f4)), (b 14, .inl (cI, 149, .inl f177))]) [2, 0, 1] rfl rfl) hS dX10_readWidow_120 (show 0 ≤ z126.toInt ∧ z126.toInt ≤ 900 ∧ 0 ≤ z127.toInt ∧ z127.toInt ≤ 900 ∧ WB f177 ∧ o_at.toInt ≤ z126.toInt ∧ (z124.toInt = 0 → o_faultKind.toInt = 0) ∧ (z124.toInt = 0 → WG f177) ∧ (f177 9).toInt = (o_f14 9).toInt from ⟨k129, k130, k131, k132, hb177, (by omega), (by omega), (fun q9 => by rw [qf177]; exact WG_next (hG (by omega)) (ag_tr agA (ag_le rl133_0 (by omega))) (by omega) (by omega) (rl133_2 q9) (by have q1 := w23 (by omega); have q2 := wv_ag (a := (o_f14 7).toInt) (b := 0) rl133_0 (by omega) (by omega); omega) (by have q1 := w23 (by omega); have q2 := wv_ag (a := (o_f14 7).toInt) (b := 0) rl133_0 (by omega) (by omega); omega) rfl (by rw [tv176]; omega)), (by omega)⟩)
  exact lp120 11 o_tokeno103 o_valueo104 o_faultKindo105 o_faultPlaceo106 o_ato101 o_fromo102 o_f14o107 w108 w109 w110 w111 w112 agb119 (by omega) (by omega) (by omega) (by omega) (by omega) (ms_st (wv_4 w112 (by omega) (by omega)).1) _ _ hP hD hS ls (lv_sub hl [0, 1] rfl)
set_option maxHeartbeats 4000000 in
set_option maxRecDepth 100000 in
theorem f_X10_isFull (l : Launch) (G : va_G) (cI cJ cZ cB cQ : ClassId) (sz : Nat) (ad : AdS) (fm : Option Nat) (h0 : Nat) (b : Nat → Nat) (o_thrown : Int32) (o_taped : Int32) (o_size : Int32) (o_at : Int32) (o_from : Int32) (o_token : Int32) (o_value : Int32) (o_faultKind : Int32) (o_faultPlace : Int32) (o_lawNow : Int32) (o_walkSet : Int32) (o_oneWidow : Int32) (o_oneTurn : Int32) (o_askWorst : Int32) (o_mayWalk : Int32) (o_oftenAll : Int64) (o_oftenRoad : Int64) (o_oftenPegs : Int64) (o_f4 : Nat → Int32) (o_f14 : Nat → Int32) (hl_o_taped : 0 ≤ o_taped.toInt) (hh_o_taped : o_taped.toInt ≤ 900) (hl_o_size : 0 ≤ o_size.toInt) (hh_o_size : o_size.toInt ≤ 900) (hl_o_at : 0 ≤ o_at.toInt) (hh_o_at : o_at.toInt ≤ 900) (hl_o_from : 0 ≤ o_from.toInt) (hh_o_from : o_from.toInt ≤ 900) (hl_o_oneTurn : 0 ≤ o_oneTurn.toInt) (hh_o_oneTurn : o_oneTurn.toInt ≤ 4) (ha_o_f14 : WB o_f14) : CIs l yX10_isFull (wl_ yX10_isFull cX10_isFull 1 (some .boolean)) ({ frames := 5, cells := 0, slots := 0, locals := 108 } : Room) G (TY cI cJ cZ cB cQ) [.ref h0] [(h0, oX10 b o_thrown o_taped o_size o_at o_from o_token o_value o_faultKind o_faultPlace o_lawNow o_walkSet o_oneWidow o_oneTurn o_askWorst o_mayWalk o_oftenAll o_oftenRoad o_oftenPegs), (b 4, .inl (cB, 900, .inl o_f4)), (b 14, .inl (cI, 149, .inl o_f14))] sz ad fm (fun (r : Int32) (u : Unit) => (r = 1 ∨ (r = 0 ∧ (¬ isP o_faultKind.toInt o_token.toInt o_at.toInt o_from.toInt o_f4 23 ∨ ¬ (o_f14 5).toInt = 12) ∧ (¬ isP o_faultKind.toInt o_token.toInt o_at.toInt o_from.toInt o_f4 24 ∨ ¬ (o_f14 6).toInt = 6) ∧ (¬ isP o_faultKind.toInt o_token.toInt o_at.toInt o_from.toInt o_f4 25 ∨ ¬ (o_f14 7).toInt = 7)))) (fun _ : Unit => [(h0, oX10 b o_thrown o_taped o_size o_at o_from o_token o_value o_faultKind o_faultPlace o_lawNow o_walkSet o_oneWidow o_oneTurn o_askWorst o_mayWalk o_oftenAll o_oftenRoad o_oftenPegs), (b 4, .inl (cB, 900, .inl o_f4)), (b 14, .inl (cI, 149, .inl o_f14))]) 0 0 := by
  refine CIs.gon (cc := cX10_isFull) (maxL := 1) (ret := (some .boolean)) (by decide) rfl (Nat.le_of_ble_eq_true rfl) ?_
  intro p e s m below meth c A ls Q hBd hE hret
  obtain ⟨hx, hb, hr, hml, hts, hown, hlk, hnm, hP, hK, hD, hA, hZ, hl⟩ := hBd
  have hown : s.vm.findClass RX10 = some m.cls := hown
  have hl : lv_has ls 1 [(0, .ref h0)] := hl
  have hS : va_S A s.heap s.heap [] := va_S.rf
  refine lv_aload_n hx hb dX10_isFull_0 rfl (lv_at hl 0 rfl) ?_
  refine va_ldcS hx hb hown (show vk_R "WidowRoadsModel" 240 "creek" (ad.1 23) s from hE.2.2.2 23 (by decide)) dX10_isFull_1 ?_
  refine k_i (wc := [(h0, oX10 b o_thrown o_taped o_size o_at o_from o_token o_value o_faultKind o_faultPlace o_lawNow o_walkSet o_oneWidow o_oneTurn o_askWorst o_mayWalk o_oftenAll o_oftenRoad o_oftenPegs), (b 4, .inl (cB, 900, .inl o_f4))]) (wr := [(b 14, .inl (cI, 149, .inl o_f14))]) hP hD hS hA [0, 1] [2] rfl rfl rfl (by decide) (va_runV (As := [.ref (ad.1 23)]) (rest := []) ⟨hx, hb, hml, hown, hts⟩ (f_X10_is l G cI cJ cZ cB cQ _ ad fm h0 23 b o_thrown o_taped o_size o_at o_from o_token o_value o_faultKind o_faultPlace o_lawNow o_walkSet o_oneWidow o_oneTurn o_askWorst o_mayWalk o_oftenAll o_oftenRoad o_oftenPegs o_f4 (by decide) hl_o_taped hh_o_taped hl_o_size hh_o_size hl_o_at hh_o_at hl_o_from hh_o_from hl_o_oneTurn hh_o_oneTurn) (cwV 1 hts (gV w_1394 w_1396 wp_90 w_11 w_1397) rfl rfl rfl ⟨rfl, hd_X10_is⟩ ⟨Nat.le_of_ble_eq_true rfl, Nat.le_of_ble_eq_true rfl⟩) (mVs hK hZ hP hD hE hS hA [0, 1] rfl rfl [.ref (ad.1 23)] 0 10 rfl rfl) rfl rfl hl.1 rfl (lv_room (Nat.le_of_ble_eq_true rfl)) dX10_isFull_3 ⟨Nat.le_of_ble_eq_true rfl, Nat.le_of_ble_eq_true rfl⟩) (fun r1 u2 H locs hw3 hP hD hS => ?_)
  try dsimp only at hw3
  have hP : va_P G vwCl [(b 14, .inl (cI, 149, .inl o_f14)), (h0, oX10 b o_thrown o_taped o_size o_at o_from o_token o_value o_faultKind o_faultPlace o_lawNow o_walkSet o_oneWidow o_oneTurn o_askWorst o_mayWalk o_oftenAll o_oftenRoad o_oftenPegs), (b 4, .inl (cB, 900, .inl o_f4))] H := hP
  have hD : va_D A [(b 14, .inl (cI, 149, .inl o_f14)), (h0, oX10 b o_thrown o_taped o_size o_at o_from o_token o_value o_faultKind o_faultPlace o_lawNow o_walkSet o_oneWidow o_oneTurn o_askWorst o_mayWalk o_oftenAll o_oftenRoad o_oftenPegs), (b 4, .inl (cB, 900, .inl o_f4))] := hD
  rcases hw3 with ⟨rfl, a5⟩ | ⟨rfl, a6⟩
  · skip
    refine lv_if_eq (tgt := 20) hx hb dX10_isFull_6 (by decide) (fun c7 => absurd c7 (by decide)) (fun c7 => ?_)
    refine lv_aload_n hx hb dX10_isFull_9 rfl (lv_at hl 0 rfl) ?_
    refine va_get (D := G) (ci := 10) (v := .ref (b 14)) (C := RX10) (T := TX10) (N := 46) hx hb hts iG_X10 hown hK hP 1 rfl rfl 14 (by decide) (hts _ w_1206) (fun _ h9 => h9) rfl dX10_isFull_10 ?_
    refine lv_iconst (v := 5) hx hb dX10_isFull_13 (by decide) ?_
    refine va_iald hx hb hK hP 0 0 rfl rfl (ix_in ki_5 (by omega) (by omega)) dX10_isFull_14 ?_
    refine lv_topi (fun v8 ev8 => ?_)
    have tv8 : v8.toInt = (o_f14 5).toInt := by rw [ev8]; rfl
    obtain ⟨ia9, ib10⟩ := WB_5 ha_o_f14
    refine lv_bipush (v := 12) hx hb dX10_isFull_15 (by decide) ?_
    refine lv_icmp_eq (tgt := 41) hx hb dX10_isFull_17 (by decide) (fun c11 => ?_) (fun c11 => ?_)
    · have c11 := i_eq tv8 ki_12 c11
      refine lv_iconst (v := 1) hx hb dX10_isFull_41 (by decide) ?_
      exact hret _ _ _ _ 1 () (hP.sub (ws' := [(h0, oX10 b o_thrown o_taped o_size o_at o_from o_token o_value o_faultKind o_faultPlace o_lawNow o_walkSet o_oneWidow o_oneTurn o_askWorst o_mayWalk o_oftenAll o_oftenRoad o_oftenPegs), (b 4, .inl (cB, 900, .inl o_f4)), (b 14, .inl (cI, 149, .inl o_f14))]) [1, 2, 0] rfl) (hD.sub (ws' := [(h0, oX10 b o_thrown o_taped o_size o_at o_from o_token o_value o_faultKind o_faultPlace o_lawNow o_walkSet o_oneWidow o_oneTurn o_askWorst o_mayWalk o_oftenAll o_oftenRoad o_oftenPegs), (b 4, .inl (cB, 900, .inl o_f4)), (b 14, .inl (cI, 149, .inl o_f14))]) [1, 2, 0] rfl rfl) hS dX10_isFull_42 rfl (show ((1 : Int32) = 1 ∨ ((1 : Int32) = 0 ∧ (¬ isP o_faultKind.toInt o_token.toInt o_at.toInt o_from.toInt o_f4 23 ∨ ¬ (o_f14 5).toInt = 12) ∧ (¬ isP o_faultKind.toInt o_token.toInt o_at.toInt o_from.toInt o_f4 24 ∨ ¬ (o_f14 6).toInt = 6) ∧ (¬ isP o_faultKind.toInt o_token.toInt o_at.toInt o_from.toInt o_f4 25 ∨ ¬ (o_f14 7).toInt = 7))) from (Or.inl rfl))
    · have c11 := i_ne tv8 ki_12 c11
      refine lv_aload_n hx hb dX10_isFull_20 rfl (lv_at hl 0 rfl) ?_
      refine va_ldcS hx hb hown (show vk_R "WidowRoadsModel" 242 "house" (ad.1 24) s from hE.2.2.2 24 (by decide)) dX10_isFull_21 ?_
      refine k_i (wc := [(h0, oX10 b o_thrown o_taped o_size o_at o_from o_token o_value o_faultKind o_faultPlace o_lawNow o_walkSet o_oneWidow o_oneTurn o_askWorst o_mayWalk o_oftenAll o_oftenRoad o_oftenPegs), (b 4, .inl (cB, 900, .inl o_f4))]) (wr := [(b 14, .inl (cI, 149, .inl o_f14))]) hP hD hS hA [1, 2] [0] rfl rfl rfl (by decide) (va_runV (As := [.ref (ad.1 24)]) (rest := []) ⟨hx, hb, hml, hown, hts⟩ (f_X10_is l G cI cJ cZ cB cQ _ ad fm h0 24 b o_thrown o_taped o_size o_at o_from o_token o_value o_faultKind o_faultPlace o_lawNow o_walkSet o_oneWidow o_oneTurn o_askWorst o_mayWalk o_oftenAll o_oftenRoad o_oftenPegs o_f4 (by decide) hl_o_taped hh_o_taped hl_o_size hh_o_size hl_o_at hh_o_at hl_o_from hh_o_from hl_o_oneTurn hh_o_oneTurn) (cwV 1 hts (gV w_1394 w_1396 wp_90 w_11 w_1397) rfl rfl rfl ⟨rfl, hd_X10_is⟩ ⟨Nat.le_of_ble_eq_true rfl, Nat.le_of_ble_eq_true rfl⟩) (mVs hK hZ hP hD hE hS hA [1, 2] rfl rfl [.ref (ad.1 24)] 1 10 rfl rfl) rfl rfl hl.1 rfl (lv_room (Nat.le_of_ble_eq_true rfl)) dX10_isFull_23 ⟨Nat.le_of_ble_eq_true rfl, Nat.le_of_ble_eq_true rfl⟩) (fun r12 u13 H locs hw14 hP hD hS => ?_)
      try dsimp only at hw14
      have hP : va_P G vwCl [(b 14, .inl (cI, 149, .inl o_f14)), (h0, oX10 b o_thrown o_taped o_size o_at o_from o_token o_value o_faultKind o_faultPlace o_lawNow o_walkSet o_oneWidow o_oneTurn o_askWorst o_mayWalk o_oftenAll o_oftenRoad o_oftenPegs), (b 4, .inl (cB, 900, .inl o_f4))] H := hP
      have hD : va_D A [(b 14, .inl (cI, 149, .inl o_f14)), (h0, oX10 b o_thrown o_taped o_size o_at o_from o_token o_value o_faultKind o_faultPlace o_lawNow o_walkSet o_oneWidow o_oneTurn o_askWorst o_mayWalk o_oftenAll o_oftenRoad o_oftenPegs), (b 4, .inl (cB, 900, .inl o_f4))] := hD
      rcases hw14 with ⟨rfl, a16⟩ | ⟨rfl, a17⟩
      · skip
        refine lv_if_eq (tgt := 43) hx hb dX10_isFull_26 (by decide) (fun c18 => absurd c18 (by decide)) (fun c18 => ?_)
        refine lv_aload_n hx hb dX10_isFull_29 rfl (lv_at hl 0 rfl) ?_
        refine va_get (D := G) (ci := 10) (v := .ref (b 14)) (C := RX10) (T := TX10) (N := 46) hx hb hts iG_X10 hown hK hP 1 rfl rfl 14 (by decide) (hts _ w_1206) (fun _ h9 => h9) rfl dX10_isFull_30 ?_
        refine lv_bipush (v := 6) hx hb dX10_isFull_33 (by decide) ?_
        refine va_iald hx hb hK hP 0 0 rfl rfl (ix_in ki_6 (by omega) (by omega)) dX10_isFull_35 ?_
        refine lv_topi (fun v19 ev19 => ?_)
        have tv19 : v19.toInt = (o_f14 6).toInt := by rw [ev19]; rfl
        obtain ⟨ia20, ib21⟩ := WB_6 ha_o_f14
        refine lv_bipush (v := 6) hx hb dX10_isFull_36 (by decide) ?_
        refine lv_icmp_ne (tgt := 43) hx hb dX10_isFull_38 (by decide) (fun c22 => ?_) (fun c22 => ?_)
        · have c22 := i_ne tv19 ki_6 c22
          refine lv_aload_n hx hb dX10_isFull_43 rfl (lv_at hl 0 rfl) ?_
          refine va_ldcS hx hb hown (show vk_R "WidowRoadsModel" 244 "widow" (ad.1 25) s from hE.2.2.2 25 (by decide)) dX10_isFull_44 ?_
          refine k_i (wc := [(h0, oX10 b o_thrown o_taped o_size o_at o_from o_token o_value o_faultKind o_faultPlace o_lawNow o_walkSet o_oneWidow o_oneTurn o_askWorst o_mayWalk o_oftenAll o_oftenRoad o_oftenPegs), (b 4, .inl (cB, 900, .inl o_f4))]) (wr := [(b 14, .inl (cI, 149, .inl o_f14))]) hP hD hS hA [1, 2] [0] rfl rfl rfl (by decide) (va_runV (As := [.ref (ad.1 25)]) (rest := []) ⟨hx, hb, hml, hown, hts⟩ (f_X10_is l G cI cJ cZ cB cQ _ ad fm h0 25 b o_thrown o_taped o_size o_at o_from o_token o_value o_faultKind o_faultPlace o_lawNow o_walkSet o_oneWidow o_oneTurn o_askWorst o_mayWalk o_oftenAll o_oftenRoad o_oftenPegs o_f4 (by decide) hl_o_taped hh_o_taped hl_o_size hh_o_size hl_o_at hh_o_at hl_o_from hh_o_from hl_o_oneTurn hh_o_oneTurn) (cwV 1 hts (gV w_1394 w_1396 wp_90 w_11 w_1397) rfl rfl rfl ⟨rfl, hd_X10_is⟩ ⟨Nat.le_of_ble_eq_true rfl, Nat.le_of_ble_eq_true rfl⟩) (mVs hK hZ hP hD hE hS hA [1, 2] rfl rfl [.ref (ad.1 25)] 1 10 rfl rfl) rfl rfl hl.1 rfl (lv_room (Nat.le_of_ble_eq_true rfl)) dX10_isFull_46 ⟨Nat.le_of_ble_eq_true rfl, Nat.le_of_ble_eq_true rfl⟩) (fun r23 u24 H locs hw25 hP hD hS => ?_)
          try dsimp only at hw25
          have hP : va_P G vwCl [(b 14, .inl (cI, 149, .inl o_f14)), (h0, oX10 b o_thrown o_taped o_size o_at o_from o_token o_value o_faultKind o_faultPlace o_lawNow o_walkSet o_oneWidow o_oneTurn o_askWorst o_mayWalk o_oftenAll o_oftenRoad o_oftenPegs), (b 4, .inl (cB, 900, .inl o_f4))] H := hP
          have hD : va_D A [(b 14, .inl (cI, 149, .inl o_f14)), (h0, oX10 b o_thrown o_taped o_size o_at o_from o_token o_value o_faultKind o_faultPlace o_lawNow o_walkSet o_oneWidow o_oneTurn o_askWorst o_mayWalk o_oftenAll o_oftenRoad o_oftenPegs), (b 4, .inl (cB, 900, .inl o_f4))] := hD
          rcases hw25 with ⟨rfl, a27⟩ | ⟨rfl, a28⟩
          · skip
            refine lv_if_eq (tgt := 68) hx hb dX10_isFull_49 (by decide) (fun c29 => absurd c29 (by decide)) (fun c29 => ?_)
            refine lv_aload_n hx hb dX10_isFull_52 rfl (lv_at hl 0 rfl) ?_
            refine va_get (D := G) (ci := 10) (v := .ref (b 14)) (C := RX10) (T := TX10) (N := 46) hx hb hts iG_X10 hown hK hP 1 rfl rfl 14 (by decide) (hts _ w_1206) (fun _ h9 => h9) rfl dX10_isFull_53 ?_
            refine lv_bipush (v := 7) hx hb dX10_isFull_56 (by decide) ?_
            refine va_iald hx hb hK hP 0 0 rfl rfl (ix_in ki_7 (by omega) (by omega)) dX10_isFull_58 ?_
            refine lv_topi (fun v30 ev30 => ?_)
            have tv30 : v30.toInt = (o_f14 7).toInt := by rw [ev30]; rfl
            obtain ⟨ia31, ib32⟩ := WB_7 ha_o_f14
            refine lv_bipush (v := 7) hx hb dX10_isFull_59 (by decide) ?_
            refine lv_icmp_ne (tgt := 68) hx hb dX10_isFull_61 (by decide) (fun c33 => ?_) (fun c33 => ?_)
            · have c33 := i_ne tv30 ki_7 c33
              refine lv_iconst (v := 0) hx hb dX10_isFull_68 (by decide) ?_
              exact hret _ _ _ _ 0 () (hP.sub (ws' := [(h0, oX10 b o_thrown o_taped o_size o_at o_from o_token o_value o_faultKind o_faultPlace o_lawNow o_walkSet o_oneWidow o_oneTurn o_askWorst o_mayWalk o_oftenAll o_oftenRoad o_oftenPegs), (b 4, .inl (cB, 900, .inl o_f4)), (b 14, .inl (cI, 149, .inl o_f14))]) [1, 2, 0] rfl) (hD.sub (ws' := [(h0, oX10 b o_thrown o_taped o_size o_at o_from o_token o_value o_faultKind o_faultPlace o_lawNow o_walkSet o_oneWidow o_oneTurn o_askWorst o_mayWalk o_oftenAll o_oftenRoad o_oftenPegs), (b 4, .inl (cB, 900, .inl o_f4)), (b 14, .inl (cI, 149, .inl o_f14))]) [1, 2, 0] rfl rfl) hS dX10_isFull_69 rfl (show ((0 : Int32) = 1 ∨ ((0 : Int32) = 0 ∧ (¬ isP o_faultKind.toInt o_token.toInt o_at.toInt o_from.toInt o_f4 23 ∨ ¬ (o_f14 5).toInt = 12) ∧ (¬ isP o_faultKind.toInt o_token.toInt o_at.toInt o_from.toInt o_f4 24 ∨ ¬ (o_f14 6).toInt = 6) ∧ (¬ isP o_faultKind.toInt o_token.toInt o_at.toInt o_from.toInt o_f4 25 ∨ ¬ (o_f14 7).toInt = 7))) from (Or.inr ⟨rfl, by first | exact Or.inl (by assumption) | exact Or.inr (by omega), by first | exact Or.inl (by assumption) | exact Or.inr (by omega), by first | exact Or.inl (by assumption) | exact Or.inr (by omega)⟩))
            · have c33 := i_eq tv30 ki_7 c33
              refine lv_iconst (v := 1) hx hb dX10_isFull_64 (by decide) ?_
              refine lv_goto (tgt := 69) hx hb dX10_isFull_65 (by decide) ?_
              exact hret _ _ _ _ 1 () (hP.sub (ws' := [(h0, oX10 b o_thrown o_taped o_size o_at o_from o_token o_value o_faultKind o_faultPlace o_lawNow o_walkSet o_oneWidow o_oneTurn o_askWorst o_mayWalk o_oftenAll o_oftenRoad o_oftenPegs), (b 4, .inl (cB, 900, .inl o_f4)), (b 14, .inl (cI, 149, .inl o_f14))]) [1, 2, 0] rfl) (hD.sub (ws' := [(h0, oX10 b o_thrown o_taped o_size o_at o_from o_token o_value o_faultKind o_faultPlace o_lawNow o_walkSet o_oneWidow o_oneTurn o_askWorst o_mayWalk o_oftenAll o_oftenRoad o_oftenPegs), (b 4, .inl (cB, 900, .inl o_f4)), (b 14, .inl (cI, 149, .inl o_f14))]) [1, 2, 0] rfl rfl) hS dX10_isFull_69 rfl (show ((1 : Int32) = 1 ∨ ((1 : Int32) = 0 ∧ (¬ isP o_faultKind.toInt o_token.toInt o_at.toInt o_from.toInt o_f4 23 ∨ ¬ (o_f14 5).toInt = 12) ∧ (¬ isP o_faultKind.toInt o_token.toInt o_at.toInt o_from.toInt o_f4 24 ∨ ¬ (o_f14 6).toInt = 6) ∧ (¬ isP o_faultKind.toInt o_token.toInt o_at.toInt o_from.toInt o_f4 25 ∨ ¬ (o_f14 7).toInt = 7))) from (Or.inl rfl))
          · skip
            refine lv_if_eq (tgt := 68) hx hb dX10_isFull_49 (by decide) (fun c34 => ?_) (fun c34 => absurd (by decide) c34)
            refine lv_iconst (v := 0) hx hb dX10_isFull_68 (by decide) ?_
            exact hret _ _ _ _ 0 () (hP.sub (ws' := [(h0, oX10 b o_thrown o_taped o_size o_at o_from o_token o_value o_faultKind o_faultPlace o_lawNow o_walkSet o_oneWidow o_oneTurn o_askWorst o_mayWalk o_oftenAll o_oftenRoad o_oftenPegs), (b 4, .inl (cB, 900, .inl o_f4)), (b 14, .inl (cI, 149, .inl o_f14))]) [1, 2, 0] rfl) (hD.sub (ws' := [(h0, oX10 b o_thrown o_taped o_size o_at o_from o_token o_value o_faultKind o_faultPlace o_lawNow o_walkSet o_oneWidow o_oneTurn o_askWorst o_mayWalk o_oftenAll o_oftenRoad o_oftenPegs), (b 4, .inl (cB, 900, .inl o_f4)), (b 14, .inl (cI, 149, .inl o_f14))]) [1, 2, 0] rfl rfl) hS dX10_isFull_69 rfl (show ((0 : Int32) = 1 ∨ ((0 : Int32) = 0 ∧ (¬ isP o_faultKind.toInt o_token.toInt o_at.toInt o_from.toInt o_f4 23 ∨ ¬ (o_f14 5).toInt = 12) ∧ (¬ isP o_faultKind.toInt o_token.toInt o_at.toInt o_from.toInt o_f4 24 ∨ ¬ (o_f14 6).toInt = 6) ∧ (¬ isP o_faultKind.toInt o_token.toInt o_at.toInt o_from.toInt o_f4 25 ∨ ¬ (o_f14 7).toInt = 7))) from (Or.inr ⟨rfl, by first | exact Or.inl (by assumption) | exact Or.inr (by omega), by first | exact Or.inl (by assumption) | exact Or.inr (by omega), by first | exact Or.inl (by assumption) | exact Or.inr (by omega)⟩))
        · have c22 := i_eq tv19 ki_6 c22
          refine lv_iconst (v := 1) hx hb dX10_isFull_41 (by decide) ?_
          exact hret _ _ _ _ 1 () (hP.sub (ws' := [(h0, oX10 b o_thrown o_taped o_size o_at o_from o_token o_value o_faultKind o_faultPlace o_lawNow o_walkSet o_oneWidow o_oneTurn o_askWorst o_mayWalk o_oftenAll o_oftenRoad o_oftenPegs), (b 4, .inl (cB, 900, .inl o_f4)), (b 14, .inl (cI, 149, .inl o_f14))]) [1, 2, 0] rfl) (hD.sub (ws' := [(h0, oX10 b o_thrown o_taped o_size o_at o_from o_token o_value o_faultKind o_faultPlace o_lawNow o_walkSet o_oneWidow o_oneTurn o_askWorst o_mayWalk o_oftenAll o_oftenRoad o_oftenPegs), (b 4, .inl (cB, 900, .inl o_f4)), (b 14, .inl (cI, 149, .inl o_f14))]) [1, 2, 0] rfl rfl) hS dX10_isFull_42 rfl (show ((1 : Int32) = 1 ∨ ((1 : Int32) = 0 ∧ (¬ isP o_faultKind.toInt o_token.toInt o_at.toInt o_from.toInt o_f4 23 ∨ ¬ (o_f14 5).toInt = 12) ∧ (¬ isP o_faultKind.toInt o_token.toInt o_at.toInt o_from.toInt o_f4 24 ∨ ¬ (o_f14 6).toInt = 6) ∧ (¬ isP o_faultKind.toInt o_token.toInt o_at.toInt o_from.toInt o_f4 25 ∨ ¬ (o_f14 7).toInt = 7))) from (Or.inl rfl))
      · skip
        refine lv_if_eq (tgt := 43) hx hb dX10_isFull_26 (by decide) (fun c35 => ?_) (fun c35 => absurd (by decide) c35)
        refine lv_aload_n hx hb dX10_isFull_43 rfl (lv_at hl 0 rfl) ?_
        refine va_ldcS hx hb hown (show vk_R "WidowRoadsModel" 244 "widow" (ad.1 25) s from hE.2.2.2 25 (by decide)) dX10_isFull_44 ?_
        refine k_i (wc := [(h0, oX10 b o_thrown o_taped o_size o_at o_from o_token o_value o_faultKind o_faultPlace o_lawNow o_walkSet o_oneWidow o_oneTurn o_askWorst o_mayWalk o_oftenAll o_oftenRoad o_oftenPegs), (b 4, .inl (cB, 900, .inl o_f4))]) (wr := [(b 14, .inl (cI, 149, .inl o_f14))]) hP hD hS hA [1, 2] [0] rfl rfl rfl (by decide) (va_runV (As := [.ref (ad.1 25)]) (rest := []) ⟨hx, hb, hml, hown, hts⟩ (f_X10_is l G cI cJ cZ cB cQ _ ad fm h0 25 b o_thrown o_taped o_size o_at o_from o_token o_value o_faultKind o_faultPlace o_lawNow o_walkSet o_oneWidow o_oneTurn o_askWorst o_mayWalk o_oftenAll o_oftenRoad o_oftenPegs o_f4 (by decide) hl_o_taped hh_o_taped hl_o_size hh_o_size hl_o_at hh_o_at hl_o_from hh_o_from hl_o_oneTurn hh_o_oneTurn) (cwV 1 hts (gV w_1394 w_1396 wp_90 w_11 w_1397) rfl rfl rfl ⟨rfl, hd_X10_is⟩ ⟨Nat.le_of_ble_eq_true rfl, Nat.le_of_ble_eq_true rfl⟩) (mVs hK hZ hP hD hE hS hA [1, 2] rfl rfl [.ref (ad.1 25)] 1 10 rfl rfl) rfl rfl hl.1 rfl (lv_room (Nat.le_of_ble_eq_true rfl)) dX10_isFull_46 ⟨Nat.le_of_ble_eq_true rfl, Nat.le_of_ble_eq_true rfl⟩) (fun r36 u37 H locs hw38 hP hD hS => ?_)
        try dsimp only at hw38
        have hP : va_P G vwCl [(b 14, .inl (cI, 149, .inl o_f14)), (h0, oX10 b o_thrown o_taped o_size o_at o_from o_token o_value o_faultKind o_faultPlace o_lawNow o_walkSet o_oneWidow o_oneTurn o_askWorst o_mayWalk o_oftenAll o_oftenRoad o_oftenPegs), (b 4, .inl (cB, 900, .inl o_f4))] H := hP
        have hD : va_D A [(b 14, .inl (cI, 149, .inl o_f14)), (h0, oX10 b o_thrown o_taped o_size o_at o_from o_token o_value o_faultKind o_faultPlace o_lawNow o_walkSet o_oneWidow o_oneTurn o_askWorst o_mayWalk o_oftenAll o_oftenRoad o_oftenPegs), (b 4, .inl (cB, 900, .inl o_f4))] := hD
        rcases hw38 with ⟨rfl, a40⟩ | ⟨rfl, a41⟩
        · skip
          refine lv_if_eq (tgt := 68) hx hb dX10_isFull_49 (by decide) (fun c42 => absurd c42 (by decide)) (fun c42 => ?_)
          refine lv_aload_n hx hb dX10_isFull_52 rfl (lv_at hl 0 rfl) ?_
          refine va_get (D := G) (ci := 10) (v := .ref (b 14)) (C := RX10) (T := TX10) (N := 46) hx hb hts iG_X10 hown hK hP 1 rfl rfl 14 (by decide) (hts _ w_1206) (fun _ h9 => h9) rfl dX10_isFull_53 ?_
          refine lv_bipush (v := 7) hx hb dX10_isFull_56 (by decide) ?_
          refine va_iald hx hb hK hP 0 0 rfl rfl (ix_in ki_7 (by omega) (by omega)) dX10_isFull_58 ?_
          refine lv_topi (fun v43 ev43 => ?_)
          have tv43 : v43.toInt = (o_f14 7).toInt := by rw [ev43]; rfl
          obtain ⟨ia44, ib45⟩ := WB_7 ha_o_f14
          refine lv_bipush (v := 7) hx hb dX10_isFull_59 (by decide) ?_
          refine lv_icmp_ne (tgt := 68) hx hb dX10_isFull_61 (by decide) (fun c46 => ?_) (fun c46 => ?_)
          · have c46 := i_ne tv43 ki_7 c46
            refine lv_iconst (v := 0) hx hb dX10_isFull_68 (by decide) ?_
            exact hret _ _ _ _ 0 () (hP.sub (ws' := [(h0, oX10 b o_thrown o_taped o_size o_at o_from o_token o_value o_faultKind o_faultPlace o_lawNow o_walkSet o_oneWidow o_oneTurn o_askWorst o_mayWalk o_oftenAll o_oftenRoad o_oftenPegs), (b 4, .inl (cB, 900, .inl o_f4)), (b 14, .inl (cI, 149, .inl o_f14))]) [1, 2, 0] rfl) (hD.sub (ws' := [(h0, oX10 b o_thrown o_taped o_size o_at o_from o_token o_value o_faultKind o_faultPlace o_lawNow o_walkSet o_oneWidow o_oneTurn o_askWorst o_mayWalk o_oftenAll o_oftenRoad o_oftenPegs), (b 4, .inl (cB, 900, .inl o_f4)), (b 14, .inl (cI, 149, .inl o_f14))]) [1, 2, 0] rfl rfl) hS dX10_isFull_69 rfl (show ((0 : Int32) = 1 ∨ ((0 : Int32) = 0 ∧ (¬ isP o_faultKind.toInt o_token.toInt o_at.toInt o_from.toInt o_f4 23 ∨ ¬ (o_f14 5).toInt = 12) ∧ (¬ isP o_faultKind.toInt o_token.toInt o_at.toInt o_from.toInt o_f4 24 ∨ ¬ (o_f14 6).toInt = 6) ∧ (¬ isP o_faultKind.toInt o_token.toInt o_at.toInt o_from.toInt o_f4 25 ∨ ¬ (o_f14 7).toInt = 7))) from (Or.inr ⟨rfl, by first | exact Or.inl (by assumption) | exact Or.inr (by omega), by first | exact Or.inl (by assumption) | exact Or.inr (by omega), by first | exact Or.inl (by assumption) | exact Or.inr (by omega)⟩))
          · have c46 := i_eq tv43 ki_7 c46
            refine lv_iconst (v := 1) hx hb dX10_isFull_64 (by decide) ?_
            refine lv_goto (tgt := 69) hx hb dX10_isFull_65 (by decide) ?_
            exact hret _ _ _ _ 1 () (hP.sub (ws' := [(h0, oX10 b o_thrown o_taped o_size o_at o_from o_token o_value o_faultKind o_faultPlace o_lawNow o_walkSet o_oneWidow o_oneTurn o_askWorst o_mayWalk o_oftenAll o_oftenRoad o_oftenPegs), (b 4, .inl (cB, 900, .inl o_f4)), (b 14, .inl (cI, 149, .inl o_f14))]) [1, 2, 0] rfl) (hD.sub (ws' := [(h0, oX10 b o_thrown o_taped o_size o_at o_from o_token o_value o_faultKind o_faultPlace o_lawNow o_walkSet o_oneWidow o_oneTurn o_askWorst o_mayWalk o_oftenAll o_oftenRoad o_oftenPegs), (b 4, .inl (cB, 900, .inl o_f4)), (b 14, .inl (cI, 149, .inl o_f14))]) [1, 2, 0] rfl rfl) hS dX10_isFull_69 rfl (show ((1 : Int32) = 1 ∨ ((1 : Int32) = 0 ∧ (¬ isP o_faultKind.toInt o_token.toInt o_at.toInt o_from.toInt o_f4 23 ∨ ¬ (o_f14 5).toInt = 12) ∧ (¬ isP o_faultKind.toInt o_token.toInt o_at.toInt o_from.toInt o_f4 24 ∨ ¬ (o_f14 6).toInt = 6) ∧ (¬ isP o_faultKind.toInt o_token.toInt o_at.toInt o_from.toInt o_f4 25 ∨ ¬ (o_f14 7).toInt = 7))) from (Or.inl rfl))
        · skip
          refine lv_if_eq (tgt := 68) hx hb dX10_isFull_49 (by decide) (fun c47 => ?_) (fun c47 => absurd (by decide) c47)
          refine lv_iconst (v := 0) hx hb dX10_isFull_68 (by decide) ?_
          exact hret _ _ _ _ 0 () (hP.sub (ws' := [(h0, oX10 b o_thrown o_taped o_size o_at o_from o_token o_value o_faultKind o_faultPlace o_lawNow o_walkSet o_oneWidow o_oneTurn o_askWorst o_mayWalk o_oftenAll o_oftenRoad o_oftenPegs), (b 4, .inl (cB, 900, .inl o_f4)), (b 14, .inl (cI, 149, .inl o_f14))]) [1, 2, 0] rfl) (hD.sub (ws' := [(h0, oX10 b o_thrown o_taped o_size o_at o_from o_token o_value o_faultKind o_faultPlace o_lawNow o_walkSet o_oneWidow o_oneTurn o_askWorst o_mayWalk o_oftenAll o_oftenRoad o_oftenPegs), (b 4, .inl (cB, 900, .inl o_f4)), (b 14, .inl (cI, 149, .inl o_f14))]) [1, 2, 0] rfl rfl) hS dX10_isFull_69 rfl (show ((0 : Int32) = 1 ∨ ((0 : Int32) = 0 ∧ (¬ isP o_faultKind.toInt o_token.toInt o_at.toInt o_from.toInt o_f4 23 ∨ ¬ (o_f14 5).toInt = 12) ∧ (¬ isP o_faultKind.toInt o_token.toInt o_at.toInt o_from.toInt o_f4 24 ∨ ¬ (o_f14 6).toInt = 6) ∧ (¬ isP o_faultKind.toInt o_token.toInt o_at.toInt o_from.toInt o_f4 25 ∨ ¬ (o_f14 7).toInt = 7))) from (Or.inr ⟨rfl, by first | exact Or.inl (by assumption) | exact Or.inr (by omega), by first | exact Or.inl (by assumption) | exact Or.inr (by omega), by first | exact Or.inl (by assumption) | exact Or.inr (by omega)⟩))
  · skip
    refine lv_if_eq (tgt := 20) hx hb dX10_isFull_6 (by decide) (fun c48 => ?_) (fun c48 => absurd (by decide) c48)
    refine lv_aload_n hx hb dX10_isFull_20 rfl (lv_at hl 0 rfl) ?_
    refine va_ldcS hx hb hown (show vk_R "WidowRoadsModel" 242 "house" (ad.1 24) s from hE.2.2.2 24 (by decide)) dX10_isFull_21 ?_
    refine k_i (wc := [(h0, oX10 b o_thrown o_taped o_size o_at o_from o_token o_value o_faultKind o_faultPlace o_lawNow o_walkSet o_oneWidow o_oneTurn o_askWorst o_mayWalk o_oftenAll o_oftenRoad o_oftenPegs), (b 4, .inl (cB, 900, .inl o_f4))]) (wr := [(b 14, .inl (cI, 149, .inl o_f14))]) hP hD hS hA [1, 2] [0] rfl rfl rfl (by decide) (va_runV (As := [.ref (ad.1 24)]) (rest := []) ⟨hx, hb, hml, hown, hts⟩ (f_X10_is l G cI cJ cZ cB cQ _ ad fm h0 24 b o_thrown o_taped o_size o_at o_from o_token o_value o_faultKind o_faultPlace o_lawNow o_walkSet o_oneWidow o_oneTurn o_askWorst o_mayWalk o_oftenAll o_oftenRoad o_oftenPegs o_f4 (by decide) hl_o_taped hh_o_taped hl_o_size hh_o_size hl_o_at hh_o_at hl_o_from hh_o_from hl_o_oneTurn hh_o_oneTurn) (cwV 1 hts (gV w_1394 w_1396 wp_90 w_11 w_1397) rfl rfl rfl ⟨rfl, hd_X10_is⟩ ⟨Nat.le_of_ble_eq_true rfl, Nat.le_of_ble_eq_true rfl⟩) (mVs hK hZ hP hD hE hS hA [1, 2] rfl rfl [.ref (ad.1 24)] 1 10 rfl rfl) rfl rfl hl.1 rfl (lv_room (Nat.le_of_ble_eq_true rfl)) dX10_isFull_23 ⟨Nat.le_of_ble_eq_true rfl, Nat.le_of_ble_eq_true rfl⟩) (fun r49 u50 H locs hw51 hP hD hS => ?_)
    try dsimp only at hw51
    have hP : va_P G vwCl [(b 14, .inl (cI, 149, .inl o_f14)), (h0, oX10 b o_thrown o_taped o_size o_at o_from o_token o_value o_faultKind o_faultPlace o_lawNow o_walkSet o_oneWidow o_oneTurn o_askWorst o_mayWalk o_oftenAll o_oftenRoad o_oftenPegs), (b 4, .inl (cB, 900, .inl o_f4))] H := hP
    have hD : va_D A [(b 14, .inl (cI, 149, .inl o_f14)), (h0, oX10 b o_thrown o_taped o_size o_at o_from o_token o_value o_faultKind o_faultPlace o_lawNow o_walkSet o_oneWidow o_oneTurn o_askWorst o_mayWalk o_oftenAll o_oftenRoad o_oftenPegs), (b 4, .inl (cB, 900, .inl o_f4))] := hD
    rcases hw51 with ⟨rfl, a53⟩ | ⟨rfl, a54⟩
    · skip
      refine lv_if_eq (tgt := 43) hx hb dX10_isFull_26 (by decide) (fun c55 => absurd c55 (by decide)) (fun c55 => ?_)
      refine lv_aload_n hx hb dX10_isFull_29 rfl (lv_at hl 0 rfl) ?_
      refine va_get (D := G) (ci := 10) (v := .ref (b 14)) (C := RX10) (T := TX10) (N := 46) hx hb hts iG_X10 hown hK hP 1 rfl rfl 14 (by decide) (hts _ w_1206) (fun _ h9 => h9) rfl dX10_isFull_30 ?_
      refine lv_bipush (v := 6) hx hb dX10_isFull_33 (by decide) ?_
      refine va_iald hx hb hK hP 0 0 rfl rfl (ix_in ki_6 (by omega) (by omega)) dX10_isFull_35 ?_
      refine lv_topi (fun v56 ev56 => ?_)
      have tv56 : v56.toInt = (o_f14 6).toInt := by rw [ev56]; rfl
      obtain ⟨ia57, ib58⟩ := WB_6 ha_o_f14
      refine lv_bipush (v := 6) hx hb dX10_isFull_36 (by decide) ?_
      refine lv_icmp_ne (tgt := 43) hx hb dX10_isFull_38 (by decide) (fun c59 => ?_) (fun c59 => ?_)
      · have c59 := i_ne tv56 ki_6 c59
        refine lv_aload_n hx hb dX10_isFull_43 rfl (lv_at hl 0 rfl) ?_
        refine va_ldcS hx hb hown (show vk_R "WidowRoadsModel" 244 "widow" (ad.1 25) s from hE.2.2.2 25 (by decide)) dX10_isFull_44 ?_
        refine k_i (wc := [(h0, oX10 b o_thrown o_taped o_size o_at o_from o_token o_value o_faultKind o_faultPlace o_lawNow o_walkSet o_oneWidow o_oneTurn o_askWorst o_mayWalk o_oftenAll o_oftenRoad o_oftenPegs), (b 4, .inl (cB, 900, .inl o_f4))]) (wr := [(b 14, .inl (cI, 149, .inl o_f14))]) hP hD hS hA [1, 2] [0] rfl rfl rfl (by decide) (va_runV (As := [.ref (ad.1 25)]) (rest := []) ⟨hx, hb, hml, hown, hts⟩ (f_X10_is l G cI cJ cZ cB cQ _ ad fm h0 25 b o_thrown o_taped o_size o_at o_from o_token o_value o_faultKind o_faultPlace o_lawNow o_walkSet o_oneWidow o_oneTurn o_askWorst o_mayWalk o_oftenAll o_oftenRoad o_oftenPegs o_f4 (by decide) hl_o_taped hh_o_taped hl_o_size hh_o_size hl_o_at hh_o_at hl_o_from hh_o_from hl_o_oneTurn hh_o_oneTurn) (cwV 1 hts (gV w_1394 w_1396 wp_90 w_11 w_1397) rfl rfl rfl ⟨rfl, hd_X10_is⟩ ⟨Nat.le_of_ble_eq_true rfl, Nat.le_of_ble_eq_true rfl⟩) (mVs hK hZ hP hD hE hS hA [1, 2] rfl rfl [.ref (ad.1 25)] 1 10 rfl rfl) rfl rfl hl.1 rfl (lv_room (Nat.le_of_ble_eq_true rfl)) dX10_isFull_46 ⟨Nat.le_of_ble_eq_true rfl, Nat.le_of_ble_eq_true rfl⟩) (fun r60 u61 H locs hw62 hP hD hS => ?_)
        try dsimp only at hw62
        have hP : va_P G vwCl [(b 14, .inl (cI, 149, .inl o_f14)), (h0, oX10 b o_thrown o_taped o_size o_at o_from o_token o_value o_faultKind o_faultPlace o_lawNow o_walkSet o_oneWidow o_oneTurn o_askWorst o_mayWalk o_oftenAll o_oftenRoad o_oftenPegs), (b 4, .inl (cB, 900, .inl o_f4))] H := hP
        have hD : va_D A [(b 14, .inl (cI, 149, .inl o_f14)), (h0, oX10 b o_thrown o_taped o_size o_at o_from o_token o_value o_faultKind o_faultPlace o_lawNow o_walkSet o_oneWidow o_oneTurn o_askWorst o_mayWalk o_oftenAll o_oftenRoad o_oftenPegs), (b 4, .inl (cB, 900, .inl o_f4))] := hD
        rcases hw62 with ⟨rfl, a64⟩ | ⟨rfl, a65⟩
        · skip
          refine lv_if_eq (tgt := 68) hx hb dX10_isFull_49 (by decide) (fun c66 => absurd c66 (by decide)) (fun c66 => ?_)
          refine lv_aload_n hx hb dX10_isFull_52 rfl (lv_at hl 0 rfl) ?_
          refine va_get (D := G) (ci := 10) (v := .ref (b 14)) (C := RX10) (T := TX10) (N := 46) hx hb hts iG_X10 hown hK hP 1 rfl rfl 14 (by decide) (hts _ w_1206) (fun _ h9 => h9) rfl dX10_isFull_53 ?_
          refine lv_bipush (v := 7) hx hb dX10_isFull_56 (by decide) ?_
          refine va_iald hx hb hK hP 0 0 rfl rfl (ix_in ki_7 (by omega) (by omega)) dX10_isFull_58 ?_
          refine lv_topi (fun v67 ev67 => ?_)
          have tv67 : v67.toInt = (o_f14 7).toInt := by rw [ev67]; rfl
          obtain ⟨ia68, ib69⟩ := WB_7 ha_o_f14
          refine lv_bipush (v := 7) hx hb dX10_isFull_59 (by decide) ?_
          refine lv_icmp_ne (tgt := 68) hx hb dX10_isFull_61 (by decide) (fun c70 => ?_) (fun c70 => ?_)
          · have c70 := i_ne tv67 ki_7 c70
            refine lv_iconst (v := 0) hx hb dX10_isFull_68 (by decide) ?_
            exact hret _ _ _ _ 0 () (hP.sub (ws' := [(h0, oX10 b o_thrown o_taped o_size o_at o_from o_token o_value o_faultKind o_faultPlace o_lawNow o_walkSet o_oneWidow o_oneTurn o_askWorst o_mayWalk o_oftenAll o_oftenRoad o_oftenPegs), (b 4, .inl (cB, 900, .inl o_f4)), (b 14, .inl (cI, 149, .inl o_f14))]) [1, 2, 0] rfl) (hD.sub (ws' := [(h0, oX10 b o_thrown o_taped o_size o_at o_from o_token o_value o_faultKind o_faultPlace o_lawNow o_walkSet o_oneWidow o_oneTurn o_askWorst o_mayWalk o_oftenAll o_oftenRoad o_oftenPegs), (b 4, .inl (cB, 900, .inl o_f4)), (b 14, .inl (cI, 149, .inl o_f14))]) [1, 2, 0] rfl rfl) hS dX10_isFull_69 rfl (show ((0 : Int32) = 1 ∨ ((0 : Int32) = 0 ∧ (¬ isP o_faultKind.toInt o_token.toInt o_at.toInt o_from.toInt o_f4 23 ∨ ¬ (o_f14 5).toInt = 12) ∧ (¬ isP o_faultKind.toInt o_token.toInt o_at.toInt o_from.toInt o_f4 24 ∨ ¬ (o_f14 6).toInt = 6) ∧ (¬ isP o_faultKind.toInt o_token.toInt o_at.toInt o_from.toInt o_f4 25 ∨ ¬ (o_f14 7).toInt = 7))) from (Or.inr ⟨rfl, by first | exact Or.inl (by assumption) | exact Or.inr (by omega), by first | exact Or.inl (by assumption) | exact Or.inr (by omega), by first | exact Or.inl (by assumption) | exact Or.inr (by omega)⟩))
          · have c70 := i_eq tv67 ki_7 c70
            refine lv_iconst (v := 1) hx hb dX10_isFull_64 (by decide) ?_
            refine lv_goto (tgt := 69) hx hb dX10_isFull_65 (by decide) ?_
            exact hret _ _ _ _ 1 () (hP.sub (ws' := [(h0, oX10 b o_thrown o_taped o_size o_at o_from o_token o_value o_faultKind o_faultPlace o_lawNow o_walkSet o_oneWidow o_oneTurn o_askWorst o_mayWalk o_oftenAll o_oftenRoad o_oftenPegs), (b 4, .inl (cB, 900, .inl o_f4)), (b 14, .inl (cI, 149, .inl o_f14))]) [1, 2, 0] rfl) (hD.sub (ws' := [(h0, oX10 b o_thrown o_taped o_size o_at o_from o_token o_value o_faultKind o_faultPlace o_lawNow o_walkSet o_oneWidow o_oneTurn o_askWorst o_mayWalk o_oftenAll o_oftenRoad o_oftenPegs), (b 4, .inl (cB, 900, .inl o_f4)), (b 14, .inl (cI, 149, .inl o_f14))]) [1, 2, 0] rfl rfl) hS dX10_isFull_69 rfl (show ((1 : Int32) = 1 ∨ ((1 : Int32) = 0 ∧ (¬ isP o_faultKind.toInt o_token.toInt o_at.toInt o_from.toInt o_f4 23 ∨ ¬ (o_f14 5).toInt = 12) ∧ (¬ isP o_faultKind.toInt o_token.toInt o_at.toInt o_from.toInt o_f4 24 ∨ ¬ (o_f14 6).toInt = 6) ∧ (¬ isP o_faultKind.toInt o_token.toInt o_at.toInt o_from.toInt o_f4 25 ∨ ¬ (o_f14 7).toInt = 7))) from (Or.inl rfl))
        · skip
          refine lv_if_eq (tgt := 68) hx hb dX10_isFull_49 (by decide) (fun c71 => ?_) (fun c71 => absurd (by decide) c71)
          refine lv_iconst (v := 0) hx hb dX10_isFull_68 (by decide) ?_
          exact hret _ _ _ _ 0 () (hP.sub (ws' := [(h0, oX10 b o_thrown o_taped o_size o_at o_from o_token o_value o_faultKind o_faultPlace o_lawNow o_walkSet o_oneWidow o_oneTurn o_askWorst o_mayWalk o_oftenAll o_oftenRoad o_oftenPegs), (b 4, .inl (cB, 900, .inl o_f4)), (b 14, .inl (cI, 149, .inl o_f14))]) [1, 2, 0] rfl) (hD.sub (ws' := [(h0, oX10 b o_thrown o_taped o_size o_at o_from o_token o_value o_faultKind o_faultPlace o_lawNow o_walkSet o_oneWidow o_oneTurn o_askWorst o_mayWalk o_oftenAll o_oftenRoad o_oftenPegs), (b 4, .inl (cB, 900, .inl o_f4)), (b 14, .inl (cI, 149, .inl o_f14))]) [1, 2, 0] rfl rfl) hS dX10_isFull_69 rfl (show ((0 : Int32) = 1 ∨ ((0 : Int32) = 0 ∧ (¬ isP o_faultKind.toInt o_token.toInt o_at.toInt o_from.toInt o_f4 23 ∨ ¬ (o_f14 5).toInt = 12) ∧ (¬ isP o_faultKind.toInt o_token.toInt o_at.toInt o_from.toInt o_f4 24 ∨ ¬ (o_f14 6).toInt = 6) ∧ (¬ isP o_faultKind.toInt o_token.toInt o_at.toInt o_from.toInt o_f4 25 ∨ ¬ (o_f14 7).toInt = 7))) from (Or.inr ⟨rfl, by first | exact Or.inl (by assumption) | exact Or.inr (by omega), by first | exact Or.inl (by assumption) | exact Or.inr (by omega), by first | exact Or.inl (by assumption) | exact Or.inr (by omega)⟩))
      · have c59 := i_eq tv56 ki_6 c59
        refine lv_iconst (v := 1) hx hb dX10_isFull_41 (by decide) ?_
        exact hret _ _ _ _ 1 () (hP.sub (ws' := [(h0, oX10 b o_thrown o_taped o_size o_at o_from o_token o_value o_faultKind o_faultPlace o_lawNow o_walkSet o_oneWidow o_oneTurn o_askWorst o_mayWalk o_oftenAll o_oftenRoad o_oftenPegs), (b 4, .inl (cB, 900, .inl o_f4)), (b 14, .inl (cI, 149, .inl o_f14))]) [1, 2, 0] rfl) (hD.sub (ws' := [(h0, oX10 b o_thrown o_taped o_size o_at o_from o_token o_value o_faultKind o_faultPlace o_lawNow o_walkSet o_oneWidow o_oneTurn o_askWorst o_mayWalk o_oftenAll o_oftenRoad o_oftenPegs), (b 4, .inl (cB, 900, .inl o_f4)), (b 14, .inl (cI, 149, .inl o_f14))]) [1, 2, 0] rfl rfl) hS dX10_isFull_42 rfl (show ((1 : Int32) = 1 ∨ ((1 : Int32) = 0 ∧ (¬ isP o_faultKind.toInt o_token.toInt o_at.toInt o_from.toInt o_f4 23 ∨ ¬ (o_f14 5).toInt = 12) ∧ (¬ isP o_faultKind.toInt o_token.toInt o_at.toInt o_from.toInt o_f4 24 ∨ ¬ (o_f14 6).toInt = 6) ∧ (¬ isP o_faultKind.toInt o_token.toInt o_at.toInt o_from.toInt o_f4 25 ∨ ¬ (o_f14 7).toInt = 7))) from (Or.inl rfl))
    · skip
      refine lv_if_eq (tgt := 43) hx hb dX10_isFull_26 (by decide) (fun c72 => ?_) (fun c72 => absurd (by decide) c72)
      refine lv_aload_n hx hb dX10_isFull_43 rfl (lv_at hl 0 rfl) ?_
      refine va_ldcS hx hb hown (show vk_R "WidowRoadsModel" 244 "widow" (ad.1 25) s from hE.2.2.2 25 (by decide)) dX10_isFull_44 ?_
      refine k_i (wc := [(h0, oX10 b o_thrown o_taped o_size o_at o_from o_token o_value o_faultKind o_faultPlace o_lawNow o_walkSet o_oneWidow o_oneTurn o_askWorst o_mayWalk o_oftenAll o_oftenRoad o_oftenPegs), (b 4, .inl (cB, 900, .inl o_f4))]) (wr := [(b 14, .inl (cI, 149, .inl o_f14))]) hP hD hS hA [1, 2] [0] rfl rfl rfl (by decide) (va_runV (As := [.ref (ad.1 25)]) (rest := []) ⟨hx, hb, hml, hown, hts⟩ (f_X10_is l G cI cJ cZ cB cQ _ ad fm h0 25 b o_thrown o_taped o_size o_at o_from o_token o_value o_faultKind o_faultPlace o_lawNow o_walkSet o_oneWidow o_oneTurn o_askWorst o_mayWalk o_oftenAll o_oftenRoad o_oftenPegs o_f4 (by decide) hl_o_taped hh_o_taped hl_o_size hh_o_size hl_o_at hh_o_at hl_o_from hh_o_from hl_o_oneTurn hh_o_oneTurn) (cwV 1 hts (gV w_1394 w_1396 wp_90 w_11 w_1397) rfl rfl rfl ⟨rfl, hd_X10_is⟩ ⟨Nat.le_of_ble_eq_true rfl, Nat.le_of_ble_eq_true rfl⟩) (mVs hK hZ hP hD hE hS hA [1, 2] rfl rfl [.ref (ad.1 25)] 1 10 rfl rfl) rfl rfl hl.1 rfl (lv_room (Nat.le_of_ble_eq_true rfl)) dX10_isFull_46 ⟨Nat.le_of_ble_eq_true rfl, Nat.le_of_ble_eq_true rfl⟩) (fun r73 u74 H locs hw75 hP hD hS => ?_)
      try dsimp only at hw75
      have hP : va_P G vwCl [(b 14, .inl (cI, 149, .inl o_f14)), (h0, oX10 b o_thrown o_taped o_size o_at o_from o_token o_value o_faultKind o_faultPlace o_lawNow o_walkSet o_oneWidow o_oneTurn o_askWorst o_mayWalk o_oftenAll o_oftenRoad o_oftenPegs), (b 4, .inl (cB, 900, .inl o_f4))] H := hP
      have hD : va_D A [(b 14, .inl (cI, 149, .inl o_f14)), (h0, oX10 b o_thrown o_taped o_size o_at o_from o_token o_value o_faultKind o_faultPlace o_lawNow o_walkSet o_oneWidow o_oneTurn o_askWorst o_mayWalk o_oftenAll o_oftenRoad o_oftenPegs), (b 4, .inl (cB, 900, .inl o_f4))] := hD
      rcases hw75 with ⟨rfl, a77⟩ | ⟨rfl, a78⟩
      · skip
        refine lv_if_eq (tgt := 68) hx hb dX10_isFull_49 (by decide) (fun c79 => absurd c79 (by decide)) (fun c79 => ?_)
        refine lv_aload_n hx hb dX10_isFull_52 rfl (lv_at hl 0 rfl) ?_
        refine va_get (D := G) (ci := 10) (v := .ref (b 14)) (C := RX10) (T := TX10) (N := 46) hx hb hts iG_X10 hown hK hP 1 rfl rfl 14 (by decide) (hts _ w_1206) (fun _ h9 => h9) rfl dX10_isFull_53 ?_
        refine lv_bipush (v := 7) hx hb dX10_isFull_56 (by decide) ?_
        refine va_iald hx hb hK hP 0 0 rfl rfl (ix_in ki_7 (by omega) (by omega)) dX10_isFull_58 ?_
        refine lv_topi (fun v80 ev80 => ?_)
        have tv80 : v80.toInt = (o_f14 7).toInt := by rw [ev80]; rfl
        obtain ⟨ia81, ib82⟩ := WB_7 ha_o_f14
        refine lv_bipush (v := 7) hx hb dX10_isFull_59 (by decide) ?_
        refine lv_icmp_ne (tgt := 68) hx hb dX10_isFull_61 (by decide) (fun c83 => ?_) (fun c83 => ?_)
        · have c83 := i_ne tv80 ki_7 c83
          refine lv_iconst (v := 0) hx hb dX10_isFull_68 (by decide) ?_
          exact hret _ _ _ _ 0 () (hP.sub (ws' := [(h0, oX10 b o_thrown o_taped o_size o_at o_from o_token o_value o_faultKind o_faultPlace o_lawNow o_walkSet o_oneWidow o_oneTurn o_askWorst o_mayWalk o_oftenAll o_oftenRoad o_oftenPegs), (b 4, .inl (cB, 900, .inl o_f4)), (b 14, .inl (cI, 149, .inl o_f14))]) [1, 2, 0] rfl) (hD.sub (ws' := [(h0, oX10 b o_thrown o_taped o_size o_at o_from o_token o_value o_faultKind o_faultPlace o_lawNow o_walkSet o_oneWidow o_oneTurn o_askWorst o_mayWalk o_oftenAll o_oftenRoad o_oftenPegs), (b 4, .inl (cB, 900, .inl o_f4)), (b 14, .inl (cI, 149, .inl o_f14))]) [1, 2, 0] rfl rfl) hS dX10_isFull_69 rfl (show ((0 : Int32) = 1 ∨ ((0 : Int32) = 0 ∧ (¬ isP o_faultKind.toInt o_token.toInt o_at.toInt o_from.toInt o_f4 23 ∨ ¬ (o_f14 5).toInt = 12) ∧ (¬ isP o_faultKind.toInt o_token.toInt o_at.toInt o_from.toInt o_f4 24 ∨ ¬ (o_f14 6).toInt = 6) ∧ (¬ isP o_faultKind.toInt o_token.toInt o_at.toInt o_from.toInt o_f4 25 ∨ ¬ (o_f14 7).toInt = 7))) from (Or.inr ⟨rfl, by first | exact Or.inl (by assumption) | exact Or.inr (by omega), by first | exact Or.inl (by assumption) | exact Or.inr (by omega), by first | exact Or.inl (by assumption) | exact Or.inr (by omega)⟩))
        · have c83 := i_eq tv80 ki_7 c83
          refine lv_iconst (v := 1) hx hb dX10_isFull_64 (by decide) ?_
          refine lv_goto (tgt := 69) hx hb dX10_isFull_65 (by decide) ?_
          exact hret _ _ _ _ 1 () (hP.sub (ws' := [(h0, oX10 b o_thrown o_taped o_size o_at o_from o_token o_value o_faultKind o_faultPlace o_lawNow o_walkSet o_oneWidow o_oneTurn o_askWorst o_mayWalk o_oftenAll o_oftenRoad o_oftenPegs), (b 4, .inl (cB, 900, .inl o_f4)), (b 14, .inl (cI, 149, .inl o_f14))]) [1, 2, 0] rfl) (hD.sub (ws' := [(h0, oX10 b o_thrown o_taped o_size o_at o_from o_token o_value o_faultKind o_faultPlace o_lawNow o_walkSet o_oneWidow o_oneTurn o_askWorst o_mayWalk o_oftenAll o_oftenRoad o_oftenPegs), (b 4, .inl (cB, 900, .inl o_f4)), (b 14, .inl (cI, 149, .inl o_f14))]) [1, 2, 0] rfl rfl) hS dX10_isFull_69 rfl (show ((1 : Int32) = 1 ∨ ((1 : Int32) = 0 ∧ (¬ isP o_faultKind.toInt o_token.toInt o_at.toInt o_from.toInt o_f4 23 ∨ ¬ (o_f14 5).toInt = 12) ∧ (¬ isP o_faultKind.toInt o_token.toInt o_at.toInt o_from.toInt o_f4 24 ∨ ¬ (o_f14 6).toInt = 6) ∧ (¬ isP o_faultKind.toInt o_token.toInt o_at.toInt o_from.toInt o_f4 25 ∨ ¬ (o_f14 7).toInt = 7))) from (Or.inl rfl))
      · skip
        refine lv_if_eq (tgt := 68) hx hb dX10_isFull_49 (by decide) (fun c84 => ?_) (fun c84 => absurd (by decide) c84)
        refine lv_iconst (v := 0) hx hb dX10_isFull_68 (by decide) ?_
        exact hret _ _ _ _ 0 () (hP.sub (ws' := [(h0, oX10 b o_thrown o_taped o_size o_at o_from o_token o_value o_faultKind o_faultPlace o_lawNow o_walkSet o_oneWidow o_oneTurn o_askWorst o_mayWalk o_oftenAll o_oftenRoad o_oftenPegs), (b 4, .inl (cB, 900, .inl o_f4)), (b 14, .inl (cI, 149, .inl o_f14))]) [1, 2, 0] rfl) (hD.sub (ws' := [(h0, oX10 b o_thrown o_taped o_size o_at o_from o_token o_value o_faultKind o_faultPlace o_lawNow o_walkSet o_oneWidow o_oneTurn o_askWorst o_mayWalk o_oftenAll o_oftenRoad o_oftenPegs), (b 4, .inl (cB, 900, .inl o_f4)), (b 14, .inl (cI, 149, .inl o_f14))]) [1, 2, 0] rfl rfl) hS dX10_isFull_69 rfl (show ((0 : Int32) = 1 ∨ ((0 : Int32) = 0 ∧ (¬ isP o_faultKind.toInt o_token.toInt o_at.toInt o_from.toInt o_f4 23 ∨ ¬ (o_f14 5).toInt = 12) ∧ (¬ isP o_faultKind.toInt o_token.toInt o_at.toInt o_from.toInt o_f4 24 ∨ ¬ (o_f14 6).toInt = 6) ∧ (¬ isP o_faultKind.toInt o_token.toInt o_at.toInt o_from.toInt o_f4 25 ∨ ¬ (o_f14 7).toInt = 7))) from (Or.inr ⟨rfl, by first | exact Or.inl (by assumption) | exact Or.inr (by omega), by first | exact Or.inl (by assumption) | exact Or.inr (by omega), by first | exact Or.inl (by assumption) | exact Or.inr (by omega)⟩))
set_option maxHeartbeats 4000000 in
set_option maxRecDepth 100000 in
theorem f_X10_readNext (l : Launch) (G : va_G) (cI cJ cZ cB cQ : ClassId) (sz : Nat) (ad : AdS) (fm : Option Nat) (h0 : Nat) (b : Nat → Nat) (o_thrown : Int32) (o_taped : Int32) (o_size : Int32) (o_at : Int32) (o_from : Int32) (o_token : Int32) (o_value : Int32) (o_faultKind : Int32) (o_faultPlace : Int32) (o_lawNow : Int32) (o_walkSet : Int32) (o_oneWidow : Int32) (o_oneTurn : Int32) (o_askWorst : Int32) (o_mayWalk : Int32) (o_oftenAll : Int64) (o_oftenRoad : Int64) (o_oftenPegs : Int64) (o_f4 : Nat → Int32) (o_f14 : Nat → Int32) (hG : o_faultKind.toInt = 0 → WG o_f14) (hl_o_taped : 0 ≤ o_taped.toInt) (hh_o_taped : o_taped.toInt ≤ 900) (hl_o_size : 0 ≤ o_size.toInt) (hh_o_size : o_size.toInt ≤ 900) (hl_o_at : 0 ≤ o_at.toInt) (hh_o_at : o_at.toInt ≤ 900) (hl_o_from : 0 ≤ o_from.toInt) (hh_o_from : o_from.toInt ≤ 900) (hl_o_oneTurn : 0 ≤ o_oneTurn.toInt) (hh_o_oneTurn : o_oneTurn.toInt ≤ 4) (ha_o_f14 : WB o_f14) : CVs l yX10_readNext (wl_ yX10_readNext cX10_readNext 3 none) ({ frames := 9, cells := 0, slots := 0, locals := 195 } : Room) G (TY cI cJ cZ cB cQ) [.ref h0] [(h0, oX10 b o_thrown o_taped o_size o_at o_from o_token o_value o_faultKind o_faultPlace o_lawNow o_walkSet o_oneWidow o_oneTurn o_askWorst o_mayWalk o_oftenAll o_oftenRoad o_oftenPegs), (b 4, .inl (cB, 900, .inl o_f4)), (b 14, .inl (cI, 149, .inl o_f14))] sz ad fm (fun (u : Int32 × Int32 × Int32 × Int32 × Int32 × Int32 × (Nat → Int32)) => 0 ≤ u.1.toInt ∧ u.1.toInt ≤ 900 ∧ 0 ≤ u.2.1.toInt ∧ u.2.1.toInt ≤ 900 ∧ WB u.2.2.2.2.2.2 ∧ o_at.toInt ≤ u.1.toInt ∧ (u.2.2.2.2.1.toInt = 0 → o_faultKind.toInt = 0) ∧ (u.2.2.2.2.1.toInt = 0 → WG u.2.2.2.2.2.2) ∧ (u.2.2.2.2.2.2 9).toInt = (o_f14 9).toInt) (fun u : Int32 × Int32 × Int32 × Int32 × Int32 × Int32 × (Nat → Int32) => [(h0, oX10 b o_thrown o_taped o_size u.1 u.2.1 u.2.2.1 u.2.2.2.1 u.2.2.2.2.1 u.2.2.2.2.2.1 o_lawNow o_walkSet o_oneWidow o_oneTurn o_askWorst o_mayWalk o_oftenAll o_oftenRoad o_oftenPegs), (b 4, .inl (cB, 900, .inl o_f4)), (b 14, .inl (cI, 149, .inl u.2.2.2.2.2.2))]) 0 0 := by
  refine CVs.go (cc := cX10_readNext) (maxL := 3) (ret := none) (by decide) rfl (Nat.le_of_ble_eq_true rfl) ?_
  intro p e s m below meth c A ls Q hBd hE hret
  obtain ⟨hx, hb, hr, hml, hts, hown, hlk, hnm, hP, hK, hD, hA, hZ, hl⟩ := hBd
  have hown : s.vm.findClass RX10 = some m.cls := hown
  have hl : lv_has ls 3 [(0, .ref h0)] := hl
  have hS : va_S A s.heap s.heap [] := va_S.rf
  refine lv_aload_n hx hb dX10_readNext_0 rfl (lv_at hl 0 rfl) ?_
  refine va_ldcS hx hb hown (show vk_R "WidowRoadsModel" 240 "creek" (ad.1 23) s from hE.2.2.2 23 (by decide)) dX10_readNext_1 ?_
  refine k_i (wc := [(h0, oX10 b o_thrown o_taped o_size o_at o_from o_token o_value o_faultKind o_faultPlace o_lawNow o_walkSet o_oneWidow o_oneTurn o_askWorst o_mayWalk o_oftenAll o_oftenRoad o_oftenPegs), (b 4, .inl (cB, 900, .inl o_f4))]) (wr := [(b 14, .inl (cI, 149, .inl o_f14))]) hP hD hS hA [0, 1] [2] rfl rfl rfl (by decide) (va_runV (As := [.ref (ad.1 23)]) (rest := []) ⟨hx, hb, hml, hown, hts⟩ (f_X10_is l G cI cJ cZ cB cQ _ ad fm h0 23 b o_thrown o_taped o_size o_at o_from o_token o_value o_faultKind o_faultPlace o_lawNow o_walkSet o_oneWidow o_oneTurn o_askWorst o_mayWalk o_oftenAll o_oftenRoad o_oftenPegs o_f4 (by decide) hl_o_taped hh_o_taped hl_o_size hh_o_size hl_o_at hh_o_at hl_o_from hh_o_from hl_o_oneTurn hh_o_oneTurn) (cwV 1 hts (gV w_1394 w_1396 wp_90 w_11 w_1397) rfl rfl rfl ⟨rfl, hd_X10_is⟩ ⟨Nat.le_of_ble_eq_true rfl, Nat.le_of_ble_eq_true rfl⟩) (mVs hK hZ hP hD hE hS hA [0, 1] rfl rfl [.ref (ad.1 23)] 0 10 rfl rfl) rfl rfl hl.1 rfl (lv_room (Nat.le_of_ble_eq_true rfl)) dX10_readNext_3 ⟨Nat.le_of_ble_eq_true rfl, Nat.le_of_ble_eq_true rfl⟩) (fun r1 u2 H locs hw3 hP hD hS => ?_)
  try dsimp only at hw3
  have hP : va_P G vwCl [(b 14, .inl (cI, 149, .inl o_f14)), (h0, oX10 b o_thrown o_taped o_size o_at o_from o_token o_value o_faultKind o_faultPlace o_lawNow o_walkSet o_oneWidow o_oneTurn o_askWorst o_mayWalk o_oftenAll o_oftenRoad o_oftenPegs), (b 4, .inl (cB, 900, .inl o_f4))] H := hP
  have hD : va_D A [(b 14, .inl (cI, 149, .inl o_f14)), (h0, oX10 b o_thrown o_taped o_size o_at o_from o_token o_value o_faultKind o_faultPlace o_lawNow o_walkSet o_oneWidow o_oneTurn o_askWorst o_mayWalk o_oftenAll o_oftenRoad o_oftenPegs), (b 4, .inl (cB, 900, .inl o_f4))] := hD
  rcases hw3 with ⟨rfl, a5⟩ | ⟨rfl, a6⟩
  · skip
    refine lv_if_ne (tgt := 27) hx hb dX10_readNext_6 (by decide) (fun c7 => ?_) (fun c7 => absurd c7 (by decide))
    refine lv_iconst (v := 1) hx hb dX10_readNext_27 (by decide) ?_
    refine lv_goto (tgt := 32) hx hb dX10_readNext_28 (by decide) ?_
    refine lv_istore_n (lv' := [(1, .int 1), (0, .ref h0)]) hx hb dX10_readNext_32 rfl hl (by decide) rfl (fun ls hl => ?_)
    refine lv_iload_n hx hb dX10_readNext_33 rfl (lv_at hl 0 rfl) ?_
    refine lv_if_ne (tgt := 42) hx hb dX10_readNext_34 (by decide) (fun c8 => ?_) (fun c8 => absurd c8 (by decide))
    refine lv_aload_n hx hb dX10_readNext_42 rfl (lv_at hl 1 rfl) ?_
    refine k_i (wc := [(h0, oX10 b o_thrown o_taped o_size o_at o_from o_token o_value o_faultKind o_faultPlace o_lawNow o_walkSet o_oneWidow o_oneTurn o_askWorst o_mayWalk o_oftenAll o_oftenRoad o_oftenPegs), (b 4, .inl (cB, 900, .inl o_f4)), (b 14, .inl (cI, 149, .inl o_f14))]) (wr := []) hP hD hS hA [1, 2, 0] [] rfl rfl rfl (by decide) (va_runV (As := []) (rest := []) ⟨hx, hb, hml, hown, hts⟩ (f_X10_isFull l G cI cJ cZ cB cQ _ ad fm h0 b o_thrown o_taped o_size o_at o_from o_token o_value o_faultKind o_faultPlace o_lawNow o_walkSet o_oneWidow o_oneTurn o_askWorst o_mayWalk o_oftenAll o_oftenRoad o_oftenPegs o_f4 o_f14 hl_o_taped hh_o_taped hl_o_size hh_o_size hl_o_at hh_o_at hl_o_from hh_o_from hl_o_oneTurn hh_o_oneTurn ha_o_f14) (cwV 0 hts (gV w_1424 w_1426 wp_95 w_11 w_1427) rfl rfl rfl ⟨rfl, hd_X10_isFull⟩ ⟨Nat.le_of_ble_eq_true rfl, Nat.le_of_ble_eq_true rfl⟩) (mVs hK hZ hP hD hE hS hA [1, 2, 0] rfl rfl [] 1 10 rfl rfl) rfl rfl hl.1 rfl (lv_room (Nat.le_of_ble_eq_true rfl)) dX10_readNext_43 ⟨Nat.le_of_ble_eq_true rfl, Nat.le_of_ble_eq_true rfl⟩) (fun r9 u10 H locs hw11 hP hD hS => ?_)
    try dsimp only at hw11
    have hP : va_P G vwCl [(h0, oX10 b o_thrown o_taped o_size o_at o_from o_token o_value o_faultKind o_faultPlace o_lawNow o_walkSet o_oneWidow o_oneTurn o_askWorst o_mayWalk o_oftenAll o_oftenRoad o_oftenPegs), (b 4, .inl (cB, 900, .inl o_f4)), (b 14, .inl (cI, 149, .inl o_f14))] H := hP
    have hD : va_D A [(h0, oX10 b o_thrown o_taped o_size o_at o_from o_token o_value o_faultKind o_faultPlace o_lawNow o_walkSet o_oneWidow o_oneTurn o_askWorst o_mayWalk o_oftenAll o_oftenRoad o_oftenPegs), (b 4, .inl (cB, 900, .inl o_f4)), (b 14, .inl (cI, 149, .inl o_f14))] := hD
    rcases hw11 with rfl | ⟨rfl, a13, a14, a15⟩
    · skip
      refine lv_if_eq (tgt := 54) hx hb dX10_readNext_46 (by decide) (fun c16 => absurd c16 (by decide)) (fun c16 => ?_)
      refine lv_aload_n hx hb dX10_readNext_49 rfl (lv_at hl 1 rfl) ?_
      refine lv_iconst (v := 3) hx hb dX10_readNext_50 (by decide) ?_
      refine k_v (wc := [(h0, oX10 b o_thrown o_taped o_size o_at o_from o_token o_value o_faultKind o_faultPlace o_lawNow o_walkSet o_oneWidow o_oneTurn o_askWorst o_mayWalk o_oftenAll o_oftenRoad o_oftenPegs)]) (wr := [(b 4, .inl (cB, 900, .inl o_f4)), (b 14, .inl (cI, 149, .inl o_f14))]) hP hD hS hA [0] [1, 2] rfl rfl rfl (by decide) (va_runV (As := [.int 3]) (rest := []) ⟨hx, hb, hml, hown, hts⟩ (f_X10_errs l G cI cJ cZ cB cQ _ h0 3 3 b o_thrown o_taped o_size o_at o_from o_token o_value o_faultKind o_faultPlace o_lawNow o_walkSet o_oneWidow o_oneTurn o_askWorst o_mayWalk o_oftenAll o_oftenRoad o_oftenPegs ki_3 (by omega) hl_o_taped hh_o_taped hl_o_size hh_o_size hl_o_at hh_o_at hl_o_from hh_o_from hl_o_oneTurn hh_o_oneTurn) (cwV 1 hts (gV w_1400 w_1402 wp_91 w_11 w_1403) rfl rfl rfl ⟨rfl, hd_X10_errs⟩ ⟨Nat.le_of_ble_eq_true rfl, Nat.le_of_ble_eq_true rfl⟩) (mV hK hZ hP hD [0] rfl rfl [.int 3] 0 10 rfl rfl) rfl rfl hl.1 rfl (lv_room (Nat.le_of_ble_eq_true rfl)) dX10_readNext_51 ⟨Nat.le_of_ble_eq_true rfl, Nat.le_of_ble_eq_true rfl⟩) (fun u18 H locs hw19 hP hD hS => ?_)
      obtain ⟨o_faultKindo20, o_faultPlaceo21⟩ := u18
      try dsimp only at hw19
      have hP : va_P G vwCl [(b 4, .inl (cB, 900, .inl o_f4)), (b 14, .inl (cI, 149, .inl o_f14)), (h0, oX10 b o_thrown o_taped o_size o_at o_from o_token o_value o_faultKindo20 o_faultPlaceo21 o_lawNow o_walkSet o_oneWidow o_oneTurn o_askWorst o_mayWalk o_oftenAll o_oftenRoad o_oftenPegs)] H := hP
      have hD : va_D A [(b 4, .inl (cB, 900, .inl o_f4)), (b 14, .inl (cI, 149, .inl o_f14)), (h0, oX10 b o_thrown o_taped o_size o_at o_from o_token o_value o_faultKindo20 o_faultPlaceo21 o_lawNow o_walkSet o_oneWidow o_oneTurn o_askWorst o_mayWalk o_oftenAll o_oftenRoad o_oftenPegs)] := hD
      have w22 : ¬ o_faultKindo20.toInt = 0 := hw19
      refine lv_aload_n hx hb dX10_readNext_54 rfl (lv_at hl 1 rfl) ?_
      refine k_i (wc := [(h0, oX10 b o_thrown o_taped o_size o_at o_from o_token o_value o_faultKindo20 o_faultPlaceo21 o_lawNow o_walkSet o_oneWidow o_oneTurn o_askWorst o_mayWalk o_oftenAll o_oftenRoad o_oftenPegs)]) (wr := [(b 4, .inl (cB, 900, .inl o_f4)), (b 14, .inl (cI, 149, .inl o_f14))]) hP hD hS hA [2] [0, 1] rfl rfl rfl (by decide) (va_runV (As := []) (rest := []) ⟨hx, hb, hml, hown, hts⟩ (f_X10_good l G cI cJ cZ cB cQ _ h0 b o_thrown o_taped o_size o_at o_from o_token o_value o_faultKindo20 o_faultPlaceo21 o_lawNow o_walkSet o_oneWidow o_oneTurn o_askWorst o_mayWalk o_oftenAll o_oftenRoad o_oftenPegs hl_o_taped hh_o_taped hl_o_size hh_o_size hl_o_at hh_o_at hl_o_from hh_o_from hl_o_oneTurn hh_o_oneTurn) (cwV 0 hts (gV w_1373 w_1375 wp_85 w_11 w_1376) rfl rfl rfl ⟨rfl, hd_X10_good⟩ ⟨Nat.le_of_ble_eq_true rfl, Nat.le_of_ble_eq_true rfl⟩) (mV hK hZ hP hD [2] rfl rfl [] 2 10 rfl rfl) rfl rfl hl.1 rfl (lv_room (Nat.le_of_ble_eq_true rfl)) dX10_readNext_55 ⟨Nat.le_of_ble_eq_true rfl, Nat.le_of_ble_eq_true rfl⟩) (fun r23 u24 H locs hw25 hP hD hS => ?_)
      try dsimp only at hw25
      have hP : va_P G vwCl [(b 4, .inl (cB, 900, .inl o_f4)), (b 14, .inl (cI, 149, .inl o_f14)), (h0, oX10 b o_thrown o_taped o_size o_at o_from o_token o_value o_faultKindo20 o_faultPlaceo21 o_lawNow o_walkSet o_oneWidow o_oneTurn o_askWorst o_mayWalk o_oftenAll o_oftenRoad o_oftenPegs)] H := hP
      have hD : va_D A [(b 4, .inl (cB, 900, .inl o_f4)), (b 14, .inl (cI, 149, .inl o_f14)), (h0, oX10 b o_thrown o_taped o_size o_at o_from o_token o_value o_faultKindo20 o_faultPlaceo21 o_lawNow o_walkSet o_oneWidow o_oneTurn o_askWorst o_mayWalk o_oftenAll o_oftenRoad o_oftenPegs)] := hD
      rcases hw25 with ⟨rfl, a27⟩ | ⟨rfl, a28⟩
      · exact absurd a27 (by omega)
      · skip
        refine lv_if_ne (tgt := 62) hx hb dX10_readNext_58 (by decide) (fun c29 => absurd (by decide) c29) (fun c29 => ?_)
        exact hret _ _ _ _ (o_at, o_from, o_token, o_value, o_faultKindo20, o_faultPlaceo21, o_f14) (hP.sub (ws' := [(h0, oX10 b o_thrown o_taped o_size o_at o_from o_token o_value o_faultKindo20 o_faultPlaceo21 o_lawNow o_walkSet o_oneWidow o_oneTurn o_askWorst o_mayWalk o_oftenAll o_oftenRoad o_oftenPegs), (b 4, .inl (cB, 900, .inl o_f4)), (b 14, .inl (cI, 149, .inl o_f14))]) [2, 0, 1] rfl) (hD.sub (ws' := [(h0, oX10 b o_thrown o_taped o_size o_at o_from o_token o_value o_faultKindo20 o_faultPlaceo21 o_lawNow o_walkSet o_oneWidow o_oneTurn o_askWorst o_mayWalk o_oftenAll o_oftenRoad o_oftenPegs), (b 4, .inl (cB, 900, .inl o_f4)), (b 14, .inl (cI, 149, .inl o_f14))]) [2, 0, 1] rfl rfl) hS dX10_readNext_61 (show 0 ≤ o_at.toInt ∧ o_at.toInt ≤ 900 ∧ 0 ≤ o_from.toInt ∧ o_from.toInt ≤ 900 ∧ WB o_f14 ∧ o_at.toInt ≤ o_at.toInt ∧ (o_faultKindo20.toInt = 0 → o_faultKind.toInt = 0) ∧ (o_faultKindo20.toInt = 0 → WG o_f14) ∧ (o_f14 9).toInt = (o_f14 9).toInt from ⟨hl_o_at, hh_o_at, hl_o_from, hh_o_from, ha_o_f14, (by omega), (by omega), (fun q9 => hG (by omega)), (by omega)⟩)
    · have a13x := a13.resolve_left (fun q9 => q9 a5)
      skip
      refine lv_if_eq (tgt := 54) hx hb dX10_readNext_46 (by decide) (fun c30 => ?_) (fun c30 => absurd (by decide) c30)
      refine lv_aload_n hx hb dX10_readNext_54 rfl (lv_at hl 1 rfl) ?_
      refine k_i (wc := [(h0, oX10 b o_thrown o_taped o_size o_at o_from o_token o_value o_faultKind o_faultPlace o_lawNow o_walkSet o_oneWidow o_oneTurn o_askWorst o_mayWalk o_oftenAll o_oftenRoad o_oftenPegs)]) (wr := [(b 4, .inl (cB, 900, .inl o_f4)), (b 14, .inl (cI, 149, .inl o_f14))]) hP hD hS hA [0] [1, 2] rfl rfl rfl (by decide) (va_runV (As := []) (rest := []) ⟨hx, hb, hml, hown, hts⟩ (f_X10_good l G cI cJ cZ cB cQ _ h0 b o_thrown o_taped o_size o_at o_from o_token o_value o_faultKind o_faultPlace o_lawNow o_walkSet o_oneWidow o_oneTurn o_askWorst o_mayWalk o_oftenAll o_oftenRoad o_oftenPegs hl_o_taped hh_o_taped hl_o_size hh_o_size hl_o_at hh_o_at hl_o_from hh_o_from hl_o_oneTurn hh_o_oneTurn) (cwV 0 hts (gV w_1373 w_1375 wp_85 w_11 w_1376) rfl rfl rfl ⟨rfl, hd_X10_good⟩ ⟨Nat.le_of_ble_eq_true rfl, Nat.le_of_ble_eq_true rfl⟩) (mV hK hZ hP hD [0] rfl rfl [] 0 10 rfl rfl) rfl rfl hl.1 rfl (lv_room (Nat.le_of_ble_eq_true rfl)) dX10_readNext_55 ⟨Nat.le_of_ble_eq_true rfl, Nat.le_of_ble_eq_true rfl⟩) (fun r31 u32 H locs hw33 hP hD hS => ?_)
      try dsimp only at hw33
      have hP : va_P G vwCl [(b 4, .inl (cB, 900, .inl o_f4)), (b 14, .inl (cI, 149, .inl o_f14)), (h0, oX10 b o_thrown o_taped o_size o_at o_from o_token o_value o_faultKind o_faultPlace o_lawNow o_walkSet o_oneWidow o_oneTurn o_askWorst o_mayWalk o_oftenAll o_oftenRoad o_oftenPegs)] H := hP
      have hD : va_D A [(b 4, .inl (cB, 900, .inl o_f4)), (b 14, .inl (cI, 149, .inl o_f14)), (h0, oX10 b o_thrown o_taped o_size o_at o_from o_token o_value o_faultKind o_faultPlace o_lawNow o_walkSet o_oneWidow o_oneTurn o_askWorst o_mayWalk o_oftenAll o_oftenRoad o_oftenPegs)] := hD
      rcases hw33 with ⟨rfl, a35⟩ | ⟨rfl, a36⟩
      · skip
        refine lv_if_ne (tgt := 62) hx hb dX10_readNext_58 (by decide) (fun c37 => ?_) (fun c37 => absurd c37 (by decide))
        refine lv_aload_n hx hb dX10_readNext_62 rfl (lv_at hl 1 rfl) ?_
        refine va_ldcS hx hb hown (show vk_R "WidowRoadsModel" 240 "creek" (ad.1 23) s from hE.2.2.2 23 (by decide)) dX10_readNext_63 ?_
        refine k_i (wc := [(h0, oX10 b o_thrown o_taped o_size o_at o_from o_token o_value o_faultKind o_faultPlace o_lawNow o_walkSet o_oneWidow o_oneTurn o_askWorst o_mayWalk o_oftenAll o_oftenRoad o_oftenPegs), (b 4, .inl (cB, 900, .inl o_f4))]) (wr := [(b 14, .inl (cI, 149, .inl o_f14))]) hP hD hS hA [2, 0] [1] rfl rfl rfl (by decide) (va_runV (As := [.ref (ad.1 23)]) (rest := []) ⟨hx, hb, hml, hown, hts⟩ (f_X10_takes l G cI cJ cZ cB cQ _ ad fm h0 23 b o_thrown o_taped o_size o_at o_from o_token o_value o_faultKind o_faultPlace o_lawNow o_walkSet o_oneWidow o_oneTurn o_askWorst o_mayWalk o_oftenAll o_oftenRoad o_oftenPegs o_f4 (by decide) hl_o_taped hh_o_taped hl_o_size hh_o_size hl_o_at hh_o_at hl_o_from hh_o_from hl_o_oneTurn hh_o_oneTurn) (cwV 1 hts (gV w_1390 w_1392 wp_89 w_11 w_1393) rfl rfl rfl ⟨rfl, hd_X10_takes⟩ ⟨Nat.le_of_ble_eq_true rfl, Nat.le_of_ble_eq_true rfl⟩) (mVs hK hZ hP hD hE hS hA [2, 0] rfl rfl [.ref (ad.1 23)] 2 10 rfl rfl) rfl rfl hl.1 rfl (lv_room (Nat.le_of_ble_eq_true rfl)) dX10_readNext_65 ⟨Nat.le_of_ble_eq_true rfl, Nat.le_of_ble_eq_true rfl⟩) (fun r38 u39 H locs hw40 hP hD hS => ?_)
        obtain ⟨o_ato41, o_fromo42, o_tokeno43, o_valueo44⟩ := u39
        try dsimp only at hw40
        have hP : va_P G vwCl [(b 14, .inl (cI, 149, .inl o_f14)), (h0, oX10 b o_thrown o_taped o_size o_ato41 o_fromo42 o_tokeno43 o_valueo44 o_faultKind o_faultPlace o_lawNow o_walkSet o_oneWidow o_oneTurn o_askWorst o_mayWalk o_oftenAll o_oftenRoad o_oftenPegs), (b 4, .inl (cB, 900, .inl o_f4))] H := hP
        have hD : va_D A [(b 14, .inl (cI, 149, .inl o_f14)), (h0, oX10 b o_thrown o_taped o_size o_ato41 o_fromo42 o_tokeno43 o_valueo44 o_faultKind o_faultPlace o_lawNow o_walkSet o_oneWidow o_oneTurn o_askWorst o_mayWalk o_oftenAll o_oftenRoad o_oftenPegs), (b 4, .inl (cB, 900, .inl o_f4))] := hD
        obtain ⟨w45, w46, w47, w48, w49⟩ : ((r38 = 1 ∧ isP o_faultKind.toInt o_token.toInt o_at.toInt o_from.toInt o_f4 23 ∧ o_at.toInt ≤ o_fromo42.toInt ∧ o_fromo42.toInt ≤ o_ato41.toInt ∧ (o_tokeno43.toInt = 0 ∨ o_fromo42.toInt < o_ato41.toInt)) ∨ (r38 = 0 ∧ ¬ isP o_faultKind.toInt o_token.toInt o_at.toInt o_from.toInt o_f4 23 ∧ o_at = o_ato41 ∧ o_from = o_fromo42 ∧ o_token = o_tokeno43 ∧ o_value = o_valueo44)) ∧ 0 ≤ o_ato41.toInt ∧ o_ato41.toInt ≤ 900 ∧ 0 ≤ o_fromo42.toInt ∧ o_fromo42.toInt ≤ 900 := hw40
        rcases w45 with ⟨rfl, a50, a51, a52, a53⟩ | ⟨rfl, a54, rfl, rfl, rfl, rfl⟩
        · skip
          refine lv_if_eq (tgt := 105) hx hb dX10_readNext_68 (by decide) (fun c55 => absurd c55 (by decide)) (fun c55 => ?_)
          refine lv_aload_n hx hb dX10_readNext_71 rfl (lv_at hl 1 rfl) ?_
          refine lv_iconst (v := 0) hx hb dX10_readNext_72 (by decide) ?_
          refine k_i (wc := [(h0, oX10 b o_thrown o_taped o_size o_ato41 o_fromo42 o_tokeno43 o_valueo44 o_faultKind o_faultPlace o_lawNow o_walkSet o_oneWidow o_oneTurn o_askWorst o_mayWalk o_oftenAll o_oftenRoad o_oftenPegs), (b 4, .inl (cB, 900, .inl o_f4)), (b 14, .inl (cI, 149, .inl o_f14))]) (wr := []) hP hD hS hA [1, 2, 0] [] rfl rfl rfl (by decide) (va_runV (As := [.int 0]) (rest := []) ⟨hx, hb, hml, hown, hts⟩ (f_X10_readCell l G cI cJ cZ cB cQ _ h0 0 0 b o_thrown o_taped o_size o_ato41 o_fromo42 o_tokeno43 o_valueo44 o_faultKind o_faultPlace o_lawNow o_walkSet o_oneWidow o_oneTurn o_askWorst o_mayWalk o_oftenAll o_oftenRoad o_oftenPegs o_f4 o_f14 ki_0 hl_o_taped hh_o_taped hl_o_size hh_o_size w46 w47 w48 w49 hl_o_oneTurn hh_o_oneTurn ha_o_f14) (cwV 1 hts (gV w_1428 w_1430 wp_96 w_11 w_1431) rfl rfl rfl ⟨rfl, hd_X10_readCell⟩ ⟨Nat.le_of_ble_eq_true rfl, Nat.le_of_ble_eq_true rfl⟩) (mV hK hZ hP hD [1, 2, 0] rfl rfl [.int 0] 1 10 rfl rfl) rfl rfl hl.1 rfl (lv_room (Nat.le_of_ble_eq_true rfl)) dX10_readNext_73 ⟨Nat.le_of_ble_eq_true rfl, Nat.le_of_ble_eq_true rfl⟩) (fun r56 u57 H locs hw58 hP hD hS => ?_)
          obtain ⟨o_ato59, o_fromo60, o_tokeno61, o_valueo62, o_faultKindo63, o_faultPlaceo64⟩ := u57
          try dsimp only at hw58
          have hP : va_P G vwCl [(h0, oX10 b o_thrown o_taped o_size o_ato59 o_fromo60 o_tokeno61 o_valueo62 o_faultKindo63 o_faultPlaceo64 o_lawNow o_walkSet o_oneWidow o_oneTurn o_askWorst o_mayWalk o_oftenAll o_oftenRoad o_oftenPegs), (b 4, .inl (cB, 900, .inl o_f4)), (b 14, .inl (cI, 149, .inl o_f14))] H := hP
          have hD : va_D A [(h0, oX10 b o_thrown o_taped o_size o_ato59 o_fromo60 o_tokeno61 o_valueo62 o_faultKindo63 o_faultPlaceo64 o_lawNow o_walkSet o_oneWidow o_oneTurn o_askWorst o_mayWalk o_oftenAll o_oftenRoad o_oftenPegs), (b 4, .inl (cB, 900, .inl o_f4)), (b 14, .inl (cI, 149, .inl o_f14))] := hD
          obtain ⟨w65, w66, w67, w68, w69, w70, w71, w72, w73⟩ : 0 ≤ r56.toInt ∧ r56.toInt ≤ 77 ∧ 0 ≤ o_ato59.toInt ∧ o_ato59.toInt ≤ 900 ∧ 0 ≤ o_fromo60.toInt ∧ o_fromo60.toInt ≤ 900 ∧ o_ato41.toInt ≤ o_ato59.toInt ∧ (o_faultKindo63.toInt = 0 → o_faultKind.toInt = 0) ∧ (o_faultKindo63.toInt = 0 → r56.toInt / 10 < (o_f14 3).toInt ∧ r56.toInt % 10 < (o_f14 4).toInt) := hw58
          refine lv_istore_n (lv' := [(2, .int r56), (1, .int 1), (0, .ref h0)]) hx hb dX10_readNext_76 rfl hl (by decide) rfl (fun ls hl => ?_)
          refine lv_aload_n hx hb dX10_readNext_77 rfl (lv_at hl 2 rfl) ?_
          refine va_get (D := G) (ci := 10) (v := .ref (b 14)) (C := RX10) (T := TX10) (N := 46) hx hb hts iG_X10 hown hK hP 0 rfl rfl 14 (by decide) (hts _ w_1206) (fun _ h9 => h9) rfl dX10_readNext_78 ?_
          refine lv_bipush (v := 10) hx hb dX10_readNext_81 (by decide) ?_
          refine lv_aload_n hx hb dX10_readNext_83 rfl (lv_at hl 2 rfl) ?_
          refine va_get (D := G) (ci := 10) (v := .ref (b 14)) (C := RX10) (T := TX10) (N := 46) hx hb hts iG_X10 hown hK hP 0 rfl rfl 14 (by decide) (hts _ w_1206) (fun _ h9 => h9) rfl dX10_readNext_84 ?_
          refine lv_iconst (v := 5) hx hb dX10_readNext_87 (by decide) ?_
          refine va_iald hx hb hK hP 2 0 rfl rfl (ix_in ki_5 (by omega) (by omega)) dX10_readNext_88 ?_
          refine lv_topi (fun v74 ev74 => ?_)
          have tv74 : v74.toInt = (o_f14 5).toInt := by rw [ev74]; rfl
          obtain ⟨ia75, ib76⟩ := WB_5 ha_o_f14
          refine lv_iadd hx hb dX10_readNext_89 ?_
          refine lv_topi (fun v77 ev77 => ?_)
          have tv77 : v77.toInt = 10 + ((o_f14 5).toInt) := ti_add ki_10 tv74 ev77 (by omega) (by omega)
          refine lv_iload_n hx hb dX10_readNext_90 rfl (lv_at hl 0 rfl) ?_
          refine va_iast hx hb hK hP hD hS 2 0 rfl rfl (ix_in tv77 (by omega) (by omega)) dX10_readNext_91 (fun H locs hP hD hS => ?_)
          obtain ⟨f78, qf78⟩ : ∃ g, g = upd o_f14 v77.toNatClampNeg r56 := ⟨_, rfl⟩
          rw [← qf78] at hP hD
          have hb78 : WB f78 := by rw [qf78]; exact WB_putcell ha_o_f14 tv77 (by omega) (by omega) rfl (by omega) (by omega)
          have kf78_3 : (f78 3).toInt = (o_f14 3).toInt := by rw [qf78, pk_un (by rw [ix_nat tv77 (by omega)]; omega)]
          have kf78_4 : (f78 4).toInt = (o_f14 4).toInt := by rw [qf78, pk_un (by rw [ix_nat tv77 (by omega)]; omega)]
          have kf78_5 : (f78 5).toInt = (o_f14 5).toInt := by rw [qf78, pk_un (by rw [ix_nat tv77 (by omega)]; omega)]
          have kf78_6 : (f78 6).toInt = (o_f14 6).toInt := by rw [qf78, pk_un (by rw [ix_nat tv77 (by omega)]; omega)]
          have kf78_7 : (f78 7).toInt = (o_f14 7).toInt := by rw [qf78, pk_un (by rw [ix_nat tv77 (by omega)]; omega)]
          have kf78_9 : (f78 9).toInt = (o_f14 9).toInt := by rw [qf78, pk_un (by rw [ix_nat tv77 (by omega)]; omega)]
          have hg79 : o_faultKind.toInt = 0 → WG f78 := fun q9 => by rw [qf78]; exact WG_updx (hG q9) tv77 (by omega) (by omega)
          have hP : va_P G vwCl [(h0, oX10 b o_thrown o_taped o_size o_ato59 o_fromo60 o_tokeno61 o_valueo62 o_faultKindo63 o_faultPlaceo64 o_lawNow o_walkSet o_oneWidow o_oneTurn o_askWorst o_mayWalk o_oftenAll o_oftenRoad o_oftenPegs), (b 4, .inl (cB, 900, .inl o_f4)), (b 14, .inl (cI, 149, .inl f78))] H := hP
          have hD : va_D A [(h0, oX10 b o_thrown o_taped o_size o_ato59 o_fromo60 o_tokeno61 o_valueo62 o_faultKindo63 o_faultPlaceo64 o_lawNow o_walkSet o_oneWidow o_oneTurn o_askWorst o_mayWalk o_oftenAll o_oftenRoad o_oftenPegs), (b 4, .inl (cB, 900, .inl o_f4)), (b 14, .inl (cI, 149, .inl f78))] := hD
          refine lv_aload_n hx hb dX10_readNext_92 rfl (lv_at hl 2 rfl) ?_
          refine va_get (D := G) (ci := 10) (v := .ref (b 14)) (C := RX10) (T := TX10) (N := 46) hx hb hts iG_X10 hown hK hP 0 rfl rfl 14 (by decide) (hts _ w_1206) (fun _ h9 => h9) rfl dX10_readNext_93 ?_
          refine lv_iconst (v := 5) hx hb dX10_readNext_96 (by decide) ?_
          refine lv_dup2_11 hx hb dX10_readNext_97 rfl rfl ?_
          refine va_iald hx hb hK hP 2 0 rfl rfl (ix_in ki_5 (by omega) (by omega)) dX10_readNext_98 ?_
          refine lv_topi (fun v81 ev81 => ?_)
          have tv81 : v81.toInt = (f78 5).toInt := by rw [ev81]; rfl
          obtain ⟨ia82, ib83⟩ := WB_5 hb78
          refine lv_iconst (v := 1) hx hb dX10_readNext_99 (by decide) ?_
          refine lv_iadd hx hb dX10_readNext_100 ?_
          refine lv_topi (fun v84 ev84 => ?_)
          have tv84 : v84.toInt = (f78 5).toInt + 1 := ti_add tv81 ki_1 ev84 (by omega) (by omega)
          refine va_iast hx hb hK hP hD hS 2 0 rfl rfl (ix_in ki_5 (by omega) (by omega)) dX10_readNext_101 (fun H locs hP hD hS => ?_)
          obtain ⟨f85, qf85⟩ : ∃ g, g = upd f78 (5 : Int32).toNatClampNeg v84 := ⟨_, rfl⟩
          rw [← qf85] at hP hD
          have hb85 : WB f85 := by rw [qf85]; exact WB_putc 5 12 hb78 rfl rfl (by decide) tv84 (by omega) (by omega)
          have kf85_3 : (f85 3).toInt = (f78 3).toInt := by rw [qf85, pk_un (by decide)]
          have kf85_4 : (f85 4).toInt = (f78 4).toInt := by rw [qf85, pk_un (by decide)]
          have kf85_5 : (f85 5).toInt = (f78 5).toInt + 1 := by rw [qf85]; exact tv84
          have kf85_6 : (f85 6).toInt = (f78 6).toInt := by rw [qf85, pk_un (by decide)]
          have kf85_7 : (f85 7).toInt = (f78 7).toInt := by rw [qf85, pk_un (by decide)]
          have kf85_9 : (f85 9).toInt = (f78 9).toInt := by rw [qf85, pk_un (by decide)]
          have hg86 : o_faultKind.toInt = 0 → WG f85 := fun q9 => by rw [qf85]; exact WG_updx (hg79 q9) ki_5 (by omega) (by omega)
          have hP : va_P G vwCl [(h0, oX10 b o_thrown o_taped o_size o_ato59 o_fromo60 o_tokeno61 o_valueo62 o_faultKindo63 o_faultPlaceo64 o_lawNow o_walkSet o_oneWidow o_oneTurn o_askWorst o_mayWalk o_oftenAll o_oftenRoad o_oftenPegs), (b 4, .inl (cB, 900, .inl o_f4)), (b 14, .inl (cI, 149, .inl f85))] H := hP
          have hD : va_D A [(h0, oX10 b o_thrown o_taped o_size o_ato59 o_fromo60 o_tokeno61 o_valueo62 o_faultKindo63 o_faultPlaceo64 o_lawNow o_walkSet o_oneWidow o_oneTurn o_askWorst o_mayWalk o_oftenAll o_oftenRoad o_oftenPegs), (b 4, .inl (cB, 900, .inl o_f4)), (b 14, .inl (cI, 149, .inl f85))] := hD
          refine lv_goto (tgt := 158) hx hb dX10_readNext_102 (by decide) ?_
          exact hret _ _ _ _ (o_ato59, o_fromo60, o_tokeno61, o_valueo62, o_faultKindo63, o_faultPlaceo64, f85) hP hD hS dX10_readNext_158 (show 0 ≤ o_ato59.toInt ∧ o_ato59.toInt ≤ 900 ∧ 0 ≤ o_fromo60.toInt ∧ o_fromo60.toInt ≤ 900 ∧ WB f85 ∧ o_at.toInt ≤ o_ato59.toInt ∧ (o_faultKindo63.toInt = 0 → o_faultKind.toInt = 0) ∧ (o_faultKindo63.toInt = 0 → WG f85) ∧ (f85 9).toInt = (o_f14 9).toInt from ⟨w67, w68, w69, w70, hb85, (by omega), (by omega), (fun q9 => hg86 (by omega)), (by omega)⟩)
        · exact absurd a5 a54
      · skip
        refine lv_if_ne (tgt := 62) hx hb dX10_readNext_58 (by decide) (fun c88 => absurd (by decide) c88) (fun c88 => ?_)
        exact hret _ _ _ _ (o_at, o_from, o_token, o_value, o_faultKind, o_faultPlace, o_f14) (hP.sub (ws' := [(h0, oX10 b o_thrown o_taped o_size o_at o_from o_token o_value o_faultKind o_faultPlace o_lawNow o_walkSet o_oneWidow o_oneTurn o_askWorst o_mayWalk o_oftenAll o_oftenRoad o_oftenPegs), (b 4, .inl (cB, 900, .inl o_f4)), (b 14, .inl (cI, 149, .inl o_f14))]) [2, 0, 1] rfl) (hD.sub (ws' := [(h0, oX10 b o_thrown o_taped o_size o_at o_from o_token o_value o_faultKind o_faultPlace o_lawNow o_walkSet o_oneWidow o_oneTurn o_askWorst o_mayWalk o_oftenAll o_oftenRoad o_oftenPegs), (b 4, .inl (cB, 900, .inl o_f4)), (b 14, .inl (cI, 149, .inl o_f14))]) [2, 0, 1] rfl rfl) hS dX10_readNext_61 (show 0 ≤ o_at.toInt ∧ o_at.toInt ≤ 900 ∧ 0 ≤ o_from.toInt ∧ o_from.toInt ≤ 900 ∧ WB o_f14 ∧ o_at.toInt ≤ o_at.toInt ∧ (o_faultKind.toInt = 0 → o_faultKind.toInt = 0) ∧ (o_faultKind.toInt = 0 → WG o_f14) ∧ (o_f14 9).toInt = (o_f14 9).toInt from ⟨hl_o_at, hh_o_at, hl_o_from, hh_o_from, ha_o_f14, (by omega), (by omega), (fun q9 => hG (by omega)), (by omega)⟩)
  · skip
    refine lv_if_ne (tgt := 27) hx hb dX10_readNext_6 (by decide) (fun c89 => absurd (by decide) c89) (fun c89 => ?_)
    refine lv_aload_n hx hb dX10_readNext_9 rfl (lv_at hl 0 rfl) ?_
    refine va_ldcS hx hb hown (show vk_R "WidowRoadsModel" 242 "house" (ad.1 24) s from hE.2.2.2 24 (by decide)) dX10_readNext_10 ?_
    refine k_i (wc := [(h0, oX10 b o_thrown o_taped o_size o_at o_from o_token o_value o_faultKind o_faultPlace o_lawNow o_walkSet o_oneWidow o_oneTurn o_askWorst o_mayWalk o_oftenAll o_oftenRoad o_oftenPegs), (b 4, .inl (cB, 900, .inl o_f4))]) (wr := [(b 14, .inl (cI, 149, .inl o_f14))]) hP hD hS hA [1, 2] [0] rfl rfl rfl (by decide) (va_runV (As := [.ref (ad.1 24)]) (rest := []) ⟨hx, hb, hml, hown, hts⟩ (f_X10_is l G cI cJ cZ cB cQ _ ad fm h0 24 b o_thrown o_taped o_size o_at o_from o_token o_value o_faultKind o_faultPlace o_lawNow o_walkSet o_oneWidow o_oneTurn o_askWorst o_mayWalk o_oftenAll o_oftenRoad o_oftenPegs o_f4 (by decide) hl_o_taped hh_o_taped hl_o_size hh_o_size hl_o_at hh_o_at hl_o_from hh_o_from hl_o_oneTurn hh_o_oneTurn) (cwV 1 hts (gV w_1394 w_1396 wp_90 w_11 w_1397) rfl rfl rfl ⟨rfl, hd_X10_is⟩ ⟨Nat.le_of_ble_eq_true rfl, Nat.le_of_ble_eq_true rfl⟩) (mVs hK hZ hP hD hE hS hA [1, 2] rfl rfl [.ref (ad.1 24)] 1 10 rfl rfl) rfl rfl hl.1 rfl (lv_room (Nat.le_of_ble_eq_true rfl)) dX10_readNext_12 ⟨Nat.le_of_ble_eq_true rfl, Nat.le_of_ble_eq_true rfl⟩) (fun r90 u91 H locs hw92 hP hD hS => ?_)
    try dsimp only at hw92
    have hP : va_P G vwCl [(b 14, .inl (cI, 149, .inl o_f14)), (h0, oX10 b o_thrown o_taped o_size o_at o_from o_token o_value o_faultKind o_faultPlace o_lawNow o_walkSet o_oneWidow o_oneTurn o_askWorst o_mayWalk o_oftenAll o_oftenRoad o_oftenPegs), (b 4, .inl (cB, 900, .inl o_f4))] H := hP
    have hD : va_D A [(b 14, .inl (cI, 149, .inl o_f14)), (h0, oX10 b o_thrown o_taped o_size o_at o_from o_token o_value o_faultKind o_faultPlace o_lawNow o_walkSet o_oneWidow o_oneTurn o_askWorst o_mayWalk o_oftenAll o_oftenRoad o_oftenPegs), (b 4, .inl (cB, 900, .inl o_f4))] := hD
    rcases hw92 with ⟨rfl, a94⟩ | ⟨rfl, a95⟩
    · skip
      refine lv_if_ne (tgt := 27) hx hb dX10_readNext_15 (by decide) (fun c96 => ?_) (fun c96 => absurd c96 (by decide))
      refine lv_iconst (v := 1) hx hb dX10_readNext_27 (by decide) ?_
      refine lv_goto (tgt := 32) hx hb dX10_readNext_28 (by decide) ?_
      refine lv_istore_n (lv' := [(1, .int 1), (0, .ref h0)]) hx hb dX10_readNext_32 rfl hl (by decide) rfl (fun ls hl => ?_)
      refine lv_iload_n hx hb dX10_readNext_33 rfl (lv_at hl 0 rfl) ?_
      refine lv_if_ne (tgt := 42) hx hb dX10_readNext_34 (by decide) (fun c97 => ?_) (fun c97 => absurd c97 (by decide))
      refine lv_aload_n hx hb dX10_readNext_42 rfl (lv_at hl 1 rfl) ?_
      refine k_i (wc := [(h0, oX10 b o_thrown o_taped o_size o_at o_from o_token o_value o_faultKind o_faultPlace o_lawNow o_walkSet o_oneWidow o_oneTurn o_askWorst o_mayWalk o_oftenAll o_oftenRoad o_oftenPegs), (b 4, .inl (cB, 900, .inl o_f4)), (b 14, .inl (cI, 149, .inl o_f14))]) (wr := []) hP hD hS hA [1, 2, 0] [] rfl rfl rfl (by decide) (va_runV (As := []) (rest := []) ⟨hx, hb, hml, hown, hts⟩ (f_X10_isFull l G cI cJ cZ cB cQ _ ad fm h0 b o_thrown o_taped o_size o_at o_from o_token o_value o_faultKind o_faultPlace o_lawNow o_walkSet o_oneWidow o_oneTurn o_askWorst o_mayWalk o_oftenAll o_oftenRoad o_oftenPegs o_f4 o_f14 hl_o_taped hh_o_taped hl_o_size hh_o_size hl_o_at hh_o_at hl_o_from hh_o_from hl_o_oneTurn hh_o_oneTurn ha_o_f14) (cwV 0 hts (gV w_1424 w_1426 wp_95 w_11 w_1427) rfl rfl rfl ⟨rfl, hd_X10_isFull⟩ ⟨Nat.le_of_ble_eq_true rfl, Nat.le_of_ble_eq_true rfl⟩) (mVs hK hZ hP hD hE hS hA [1, 2, 0] rfl rfl [] 1 10 rfl rfl) rfl rfl hl.1 rfl (lv_room (Nat.le_of_ble_eq_true rfl)) dX10_readNext_43 ⟨Nat.le_of_ble_eq_true rfl, Nat.le_of_ble_eq_true rfl⟩) (fun r98 u99 H locs hw100 hP hD hS => ?_)
      try dsimp only at hw100
      have hP : va_P G vwCl [(h0, oX10 b o_thrown o_taped o_size o_at o_from o_token o_value o_faultKind o_faultPlace o_lawNow o_walkSet o_oneWidow o_oneTurn o_askWorst o_mayWalk o_oftenAll o_oftenRoad o_oftenPegs), (b 4, .inl (cB, 900, .inl o_f4)), (b 14, .inl (cI, 149, .inl o_f14))] H := hP
      have hD : va_D A [(h0, oX10 b o_thrown o_taped o_size o_at o_from o_token o_value o_faultKind o_faultPlace o_lawNow o_walkSet o_oneWidow o_oneTurn o_askWorst o_mayWalk o_oftenAll o_oftenRoad o_oftenPegs), (b 4, .inl (cB, 900, .inl o_f4)), (b 14, .inl (cI, 149, .inl o_f14))] := hD
      rcases hw100 with rfl | ⟨rfl, a102, a103, a104⟩
      · skip
        refine lv_if_eq (tgt := 54) hx hb dX10_readNext_46 (by decide) (fun c105 => absurd c105 (by decide)) (fun c105 => ?_)
        refine lv_aload_n hx hb dX10_readNext_49 rfl (lv_at hl 1 rfl) ?_
        refine lv_iconst (v := 3) hx hb dX10_readNext_50 (by decide) ?_
        refine k_v (wc := [(h0, oX10 b o_thrown o_taped o_size o_at o_from o_token o_value o_faultKind o_faultPlace o_lawNow o_walkSet o_oneWidow o_oneTurn o_askWorst o_mayWalk o_oftenAll o_oftenRoad o_oftenPegs)]) (wr := [(b 4, .inl (cB, 900, .inl o_f4)), (b 14, .inl (cI, 149, .inl o_f14))]) hP hD hS hA [0] [1, 2] rfl rfl rfl (by decide) (va_runV (As := [.int 3]) (rest := []) ⟨hx, hb, hml, hown, hts⟩ (f_X10_errs l G cI cJ cZ cB cQ _ h0 3 3 b o_thrown o_taped o_size o_at o_from o_token o_value o_faultKind o_faultPlace o_lawNow o_walkSet o_oneWidow o_oneTurn o_askWorst o_mayWalk o_oftenAll o_oftenRoad o_oftenPegs ki_3 (by omega) hl_o_taped hh_o_taped hl_o_size hh_o_size hl_o_at hh_o_at hl_o_from hh_o_from hl_o_oneTurn hh_o_oneTurn) (cwV 1 hts (gV w_1400 w_1402 wp_91 w_11 w_1403) rfl rfl rfl ⟨rfl, hd_X10_errs⟩ ⟨Nat.le_of_ble_eq_true rfl, Nat.le_of_ble_eq_true rfl⟩) (mV hK hZ hP hD [0] rfl rfl [.int 3] 0 10 rfl rfl) rfl rfl hl.1 rfl (lv_room (Nat.le_of_ble_eq_true rfl)) dX10_readNext_51 ⟨Nat.le_of_ble_eq_true rfl, Nat.le_of_ble_eq_true rfl⟩) (fun u107 H locs hw108 hP hD hS => ?_)
        obtain ⟨o_faultKindo109, o_faultPlaceo110⟩ := u107
        try dsimp only at hw108
        have hP : va_P G vwCl [(b 4, .inl (cB, 900, .inl o_f4)), (b 14, .inl (cI, 149, .inl o_f14)), (h0, oX10 b o_thrown o_taped o_size o_at o_from o_token o_value o_faultKindo109 o_faultPlaceo110 o_lawNow o_walkSet o_oneWidow o_oneTurn o_askWorst o_mayWalk o_oftenAll o_oftenRoad o_oftenPegs)] H := hP
        have hD : va_D A [(b 4, .inl (cB, 900, .inl o_f4)), (b 14, .inl (cI, 149, .inl o_f14)), (h0, oX10 b o_thrown o_taped o_size o_at o_from o_token o_value o_faultKindo109 o_faultPlaceo110 o_lawNow o_walkSet o_oneWidow o_oneTurn o_askWorst o_mayWalk o_oftenAll o_oftenRoad o_oftenPegs)] := hD
        have w111 : ¬ o_faultKindo109.toInt = 0 := hw108
        refine lv_aload_n hx hb dX10_readNext_54 rfl (lv_at hl 1 rfl) ?_
        refine k_i (wc := [(h0, oX10 b o_thrown o_taped o_size o_at o_from o_token o_value o_faultKindo109 o_faultPlaceo110 o_lawNow o_walkSet o_oneWidow o_oneTurn o_askWorst o_mayWalk o_oftenAll o_oftenRoad o_oftenPegs)]) (wr := [(b 4, .inl (cB, 900, .inl o_f4)), (b 14, .inl (cI, 149, .inl o_f14))]) hP hD hS hA [2] [0, 1] rfl rfl rfl (by decide) (va_runV (As := []) (rest := []) ⟨hx, hb, hml, hown, hts⟩ (f_X10_good l G cI cJ cZ cB cQ _ h0 b o_thrown o_taped o_size o_at o_from o_token o_value o_faultKindo109 o_faultPlaceo110 o_lawNow o_walkSet o_oneWidow o_oneTurn o_askWorst o_mayWalk o_oftenAll o_oftenRoad o_oftenPegs hl_o_taped hh_o_taped hl_o_size hh_o_size hl_o_at hh_o_at hl_o_from hh_o_from hl_o_oneTurn hh_o_oneTurn) (cwV 0 hts (gV w_1373 w_1375 wp_85 w_11 w_1376) rfl rfl rfl ⟨rfl, hd_X10_good⟩ ⟨Nat.le_of_ble_eq_true rfl, Nat.le_of_ble_eq_true rfl⟩) (mV hK hZ hP hD [2] rfl rfl [] 2 10 rfl rfl) rfl rfl hl.1 rfl (lv_room (Nat.le_of_ble_eq_true rfl)) dX10_readNext_55 ⟨Nat.le_of_ble_eq_true rfl, Nat.le_of_ble_eq_true rfl⟩) (fun r112 u113 H locs hw114 hP hD hS => ?_)
        try dsimp only at hw114
        have hP : va_P G vwCl [(b 4, .inl (cB, 900, .inl o_f4)), (b 14, .inl (cI, 149, .inl o_f14)), (h0, oX10 b o_thrown o_taped o_size o_at o_from o_token o_value o_faultKindo109 o_faultPlaceo110 o_lawNow o_walkSet o_oneWidow o_oneTurn o_askWorst o_mayWalk o_oftenAll o_oftenRoad o_oftenPegs)] H := hP
        have hD : va_D A [(b 4, .inl (cB, 900, .inl o_f4)), (b 14, .inl (cI, 149, .inl o_f14)), (h0, oX10 b o_thrown o_taped o_size o_at o_from o_token o_value o_faultKindo109 o_faultPlaceo110 o_lawNow o_walkSet o_oneWidow o_oneTurn o_askWorst o_mayWalk o_oftenAll o_oftenRoad o_oftenPegs)] := hD
        rcases hw114 with ⟨rfl, a116⟩ | ⟨rfl, a117⟩
        · exact absurd a116 (by omega)
        · skip
          refine lv_if_ne (tgt := 62) hx hb dX10_readNext_58 (by decide) (fun c118 => absurd (by decide) c118) (fun c118 => ?_)
          exact hret _ _ _ _ (o_at, o_from, o_token, o_value, o_faultKindo109, o_faultPlaceo110, o_f14) (hP.sub (ws' := [(h0, oX10 b o_thrown o_taped o_size o_at o_from o_token o_value o_faultKindo109 o_faultPlaceo110 o_lawNow o_walkSet o_oneWidow o_oneTurn o_askWorst o_mayWalk o_oftenAll o_oftenRoad o_oftenPegs), (b 4, .inl (cB, 900, .inl o_f4)), (b 14, .inl (cI, 149, .inl o_f14))]) [2, 0, 1] rfl) (hD.sub (ws' := [(h0, oX10 b o_thrown o_taped o_size o_at o_from o_token o_value o_faultKindo109 o_faultPlaceo110 o_lawNow o_walkSet o_oneWidow o_oneTurn o_askWorst o_mayWalk o_oftenAll o_oftenRoad o_oftenPegs), (b 4, .inl (cB, 900, .inl o_f4)), (b 14, .inl (cI, 149, .inl o_f14))]) [2, 0, 1] rfl rfl) hS dX10_readNext_61 (show 0 ≤ o_at.toInt ∧ o_at.toInt ≤ 900 ∧ 0 ≤ o_from.toInt ∧ o_from.toInt ≤ 900 ∧ WB o_f14 ∧ o_at.toInt ≤ o_at.toInt ∧ (o_faultKindo109.toInt = 0 → o_faultKind.toInt = 0) ∧ (o_faultKindo109.toInt = 0 → WG o_f14) ∧ (o_f14 9).toInt = (o_f14 9).toInt from ⟨hl_o_at, hh_o_at, hl_o_from, hh_o_from, ha_o_f14, (by omega), (by omega), (fun q9 => hG (by omega)), (by omega)⟩)
      · have a103x := a103.resolve_left (fun q9 => q9 a94)
        skip
        refine lv_if_eq (tgt := 54) hx hb dX10_readNext_46 (by decide) (fun c119 => ?_) (fun c119 => absurd (by decide) c119)
        refine lv_aload_n hx hb dX10_readNext_54 rfl (lv_at hl 1 rfl) ?_
        refine k_i (wc := [(h0, oX10 b o_thrown o_taped o_size o_at o_from o_token o_value o_faultKind o_faultPlace o_lawNow o_walkSet o_oneWidow o_oneTurn o_askWorst o_mayWalk o_oftenAll o_oftenRoad o_oftenPegs)]) (wr := [(b 4, .inl (cB, 900, .inl o_f4)), (b 14, .inl (cI, 149, .inl o_f14))]) hP hD hS hA [0] [1, 2] rfl rfl rfl (by decide) (va_runV (As := []) (rest := []) ⟨hx, hb, hml, hown, hts⟩ (f_X10_good l G cI cJ cZ cB cQ _ h0 b o_thrown o_taped o_size o_at o_from o_token o_value o_faultKind o_faultPlace o_lawNow o_walkSet o_oneWidow o_oneTurn o_askWorst o_mayWalk o_oftenAll o_oftenRoad o_oftenPegs hl_o_taped hh_o_taped hl_o_size hh_o_size hl_o_at hh_o_at hl_o_from hh_o_from hl_o_oneTurn hh_o_oneTurn) (cwV 0 hts (gV w_1373 w_1375 wp_85 w_11 w_1376) rfl rfl rfl ⟨rfl, hd_X10_good⟩ ⟨Nat.le_of_ble_eq_true rfl, Nat.le_of_ble_eq_true rfl⟩) (mV hK hZ hP hD [0] rfl rfl [] 0 10 rfl rfl) rfl rfl hl.1 rfl (lv_room (Nat.le_of_ble_eq_true rfl)) dX10_readNext_55 ⟨Nat.le_of_ble_eq_true rfl, Nat.le_of_ble_eq_true rfl⟩) (fun r120 u121 H locs hw122 hP hD hS => ?_)
        try dsimp only at hw122
        have hP : va_P G vwCl [(b 4, .inl (cB, 900, .inl o_f4)), (b 14, .inl (cI, 149, .inl o_f14)), (h0, oX10 b o_thrown o_taped o_size o_at o_from o_token o_value o_faultKind o_faultPlace o_lawNow o_walkSet o_oneWidow o_oneTurn o_askWorst o_mayWalk o_oftenAll o_oftenRoad o_oftenPegs)] H := hP
        have hD : va_D A [(b 4, .inl (cB, 900, .inl o_f4)), (b 14, .inl (cI, 149, .inl o_f14)), (h0, oX10 b o_thrown o_taped o_size o_at o_from o_token o_value o_faultKind o_faultPlace o_lawNow o_walkSet o_oneWidow o_oneTurn o_askWorst o_mayWalk o_oftenAll o_oftenRoad o_oftenPegs)] := hD
        rcases hw122 with ⟨rfl, a124⟩ | ⟨rfl, a125⟩
        · skip
          refine lv_if_ne (tgt := 62) hx hb dX10_readNext_58 (by decide) (fun c126 => ?_) (fun c126 => absurd c126 (by decide))
          refine lv_aload_n hx hb dX10_readNext_62 rfl (lv_at hl 1 rfl) ?_
          refine va_ldcS hx hb hown (show vk_R "WidowRoadsModel" 240 "creek" (ad.1 23) s from hE.2.2.2 23 (by decide)) dX10_readNext_63 ?_
          refine k_i (wc := [(h0, oX10 b o_thrown o_taped o_size o_at o_from o_token o_value o_faultKind o_faultPlace o_lawNow o_walkSet o_oneWidow o_oneTurn o_askWorst o_mayWalk o_oftenAll o_oftenRoad o_oftenPegs), (b 4, .inl (cB, 900, .inl o_f4))]) (wr := [(b 14, .inl (cI, 149, .inl o_f14))]) hP hD hS hA [2, 0] [1] rfl rfl rfl (by decide) (va_runV (As := [.ref (ad.1 23)]) (rest := []) ⟨hx, hb, hml, hown, hts⟩ (f_X10_takes l G cI cJ cZ cB cQ _ ad fm h0 23 b o_thrown o_taped o_size o_at o_from o_token o_value o_faultKind o_faultPlace o_lawNow o_walkSet o_oneWidow o_oneTurn o_askWorst o_mayWalk o_oftenAll o_oftenRoad o_oftenPegs o_f4 (by decide) hl_o_taped hh_o_taped hl_o_size hh_o_size hl_o_at hh_o_at hl_o_from hh_o_from hl_o_oneTurn hh_o_oneTurn) (cwV 1 hts (gV w_1390 w_1392 wp_89 w_11 w_1393) rfl rfl rfl ⟨rfl, hd_X10_takes⟩ ⟨Nat.le_of_ble_eq_true rfl, Nat.le_of_ble_eq_true rfl⟩) (mVs hK hZ hP hD hE hS hA [2, 0] rfl rfl [.ref (ad.1 23)] 2 10 rfl rfl) rfl rfl hl.1 rfl (lv_room (Nat.le_of_ble_eq_true rfl)) dX10_readNext_65 ⟨Nat.le_of_ble_eq_true rfl, Nat.le_of_ble_eq_true rfl⟩) (fun r127 u128 H locs hw129 hP hD hS => ?_)
          obtain ⟨o_ato130, o_fromo131, o_tokeno132, o_valueo133⟩ := u128
          try dsimp only at hw129
          have hP : va_P G vwCl [(b 14, .inl (cI, 149, .inl o_f14)), (h0, oX10 b o_thrown o_taped o_size o_ato130 o_fromo131 o_tokeno132 o_valueo133 o_faultKind o_faultPlace o_lawNow o_walkSet o_oneWidow o_oneTurn o_askWorst o_mayWalk o_oftenAll o_oftenRoad o_oftenPegs), (b 4, .inl (cB, 900, .inl o_f4))] H := hP
          have hD : va_D A [(b 14, .inl (cI, 149, .inl o_f14)), (h0, oX10 b o_thrown o_taped o_size o_ato130 o_fromo131 o_tokeno132 o_valueo133 o_faultKind o_faultPlace o_lawNow o_walkSet o_oneWidow o_oneTurn o_askWorst o_mayWalk o_oftenAll o_oftenRoad o_oftenPegs), (b 4, .inl (cB, 900, .inl o_f4))] := hD
          obtain ⟨w134, w135, w136, w137, w138⟩ : ((r127 = 1 ∧ isP o_faultKind.toInt o_token.toInt o_at.toInt o_from.toInt o_f4 23 ∧ o_at.toInt ≤ o_fromo131.toInt ∧ o_fromo131.toInt ≤ o_ato130.toInt ∧ (o_tokeno132.toInt = 0 ∨ o_fromo131.toInt < o_ato130.toInt)) ∨ (r127 = 0 ∧ ¬ isP o_faultKind.toInt o_token.toInt o_at.toInt o_from.toInt o_f4 23 ∧ o_at = o_ato130 ∧ o_from = o_fromo131 ∧ o_token = o_tokeno132 ∧ o_value = o_valueo133)) ∧ 0 ≤ o_ato130.toInt ∧ o_ato130.toInt ≤ 900 ∧ 0 ≤ o_fromo131.toInt ∧ o_fromo131.toInt ≤ 900 := hw129
          rcases w134 with ⟨rfl, a139, a140, a141, a142⟩ | ⟨rfl, a143, rfl, rfl, rfl, rfl⟩
          · exact absurd a139 a6
          · skip
            refine lv_if_eq (tgt := 105) hx hb dX10_readNext_68 (by decide) (fun c144 => ?_) (fun c144 => absurd (by decide) c144)
            refine lv_aload_n hx hb dX10_readNext_105 rfl (lv_at hl 1 rfl) ?_
            refine va_ldcS hx hb hown (show vk_R "WidowRoadsModel" 242 "house" (ad.1 24) s from hE.2.2.2 24 (by decide)) dX10_readNext_106 ?_
            refine k_i (wc := [(h0, oX10 b o_thrown o_taped o_size o_at o_from o_token o_value o_faultKind o_faultPlace o_lawNow o_walkSet o_oneWidow o_oneTurn o_askWorst o_mayWalk o_oftenAll o_oftenRoad o_oftenPegs), (b 4, .inl (cB, 900, .inl o_f4))]) (wr := [(b 14, .inl (cI, 149, .inl o_f14))]) hP hD hS hA [1, 2] [0] rfl rfl rfl (by decide) (va_runV (As := [.ref (ad.1 24)]) (rest := []) ⟨hx, hb, hml, hown, hts⟩ (f_X10_takes l G cI cJ cZ cB cQ _ ad fm h0 24 b o_thrown o_taped o_size o_at o_from o_token o_value o_faultKind o_faultPlace o_lawNow o_walkSet o_oneWidow o_oneTurn o_askWorst o_mayWalk o_oftenAll o_oftenRoad o_oftenPegs o_f4 (by decide) hl_o_taped hh_o_taped hl_o_size hh_o_size hl_o_at hh_o_at hl_o_from hh_o_from hl_o_oneTurn hh_o_oneTurn) (cwV 1 hts (gV w_1390 w_1392 wp_89 w_11 w_1393) rfl rfl rfl ⟨rfl, hd_X10_takes⟩ ⟨Nat.le_of_ble_eq_true rfl, Nat.le_of_ble_eq_true rfl⟩) (mVs hK hZ hP hD hE hS hA [1, 2] rfl rfl [.ref (ad.1 24)] 1 10 rfl rfl) rfl rfl hl.1 rfl (lv_room (Nat.le_of_ble_eq_true rfl)) dX10_readNext_108 ⟨Nat.le_of_ble_eq_true rfl, Nat.le_of_ble_eq_true rfl⟩) (fun r145 u146 H locs hw147 hP hD hS => ?_)
            obtain ⟨o_ato148, o_fromo149, o_tokeno150, o_valueo151⟩ := u146
            try dsimp only at hw147
            have hP : va_P G vwCl [(b 14, .inl (cI, 149, .inl o_f14)), (h0, oX10 b o_thrown o_taped o_size o_ato148 o_fromo149 o_tokeno150 o_valueo151 o_faultKind o_faultPlace o_lawNow o_walkSet o_oneWidow o_oneTurn o_askWorst o_mayWalk o_oftenAll o_oftenRoad o_oftenPegs), (b 4, .inl (cB, 900, .inl o_f4))] H := hP
            have hD : va_D A [(b 14, .inl (cI, 149, .inl o_f14)), (h0, oX10 b o_thrown o_taped o_size o_ato148 o_fromo149 o_tokeno150 o_valueo151 o_faultKind o_faultPlace o_lawNow o_walkSet o_oneWidow o_oneTurn o_askWorst o_mayWalk o_oftenAll o_oftenRoad o_oftenPegs), (b 4, .inl (cB, 900, .inl o_f4))] := hD
            obtain ⟨w152, w153, w154, w155, w156⟩ : ((r145 = 1 ∧ isP o_faultKind.toInt o_token.toInt o_at.toInt o_from.toInt o_f4 24 ∧ o_at.toInt ≤ o_fromo149.toInt ∧ o_fromo149.toInt ≤ o_ato148.toInt ∧ (o_tokeno150.toInt = 0 ∨ o_fromo149.toInt < o_ato148.toInt)) ∨ (r145 = 0 ∧ ¬ isP o_faultKind.toInt o_token.toInt o_at.toInt o_from.toInt o_f4 24 ∧ o_at = o_ato148 ∧ o_from = o_fromo149 ∧ o_token = o_tokeno150 ∧ o_value = o_valueo151)) ∧ 0 ≤ o_ato148.toInt ∧ o_ato148.toInt ≤ 900 ∧ 0 ≤ o_fromo149.toInt ∧ o_fromo149.toInt ≤ 900 := hw147
            rcases w152 with ⟨rfl, a157, a158, a159, a160⟩ | ⟨rfl, a161, rfl, rfl, rfl, rfl⟩
            · skip
              refine lv_if_eq (tgt := 150) hx hb dX10_readNext_111 (by decide) (fun c162 => absurd c162 (by decide)) (fun c162 => ?_)
              refine lv_aload_n hx hb dX10_readNext_114 rfl (lv_at hl 1 rfl) ?_
              refine lv_iconst (v := 1) hx hb dX10_readNext_115 (by decide) ?_
              refine k_i (wc := [(h0, oX10 b o_thrown o_taped o_size o_ato148 o_fromo149 o_tokeno150 o_valueo151 o_faultKind o_faultPlace o_lawNow o_walkSet o_oneWidow o_oneTurn o_askWorst o_mayWalk o_oftenAll o_oftenRoad o_oftenPegs), (b 4, .inl (cB, 900, .inl o_f4)), (b 14, .inl (cI, 149, .inl o_f14))]) (wr := []) hP hD hS hA [1, 2, 0] [] rfl rfl rfl (by decide) (va_runV (As := [.int 1]) (rest := []) ⟨hx, hb, hml, hown, hts⟩ (f_X10_readCell l G cI cJ cZ cB cQ _ h0 1 1 b o_thrown o_taped o_size o_ato148 o_fromo149 o_tokeno150 o_valueo151 o_faultKind o_faultPlace o_lawNow o_walkSet o_oneWidow o_oneTurn o_askWorst o_mayWalk o_oftenAll o_oftenRoad o_oftenPegs o_f4 o_f14 ki_1 hl_o_taped hh_o_taped hl_o_size hh_o_size w153 w154 w155 w156 hl_o_oneTurn hh_o_oneTurn ha_o_f14) (cwV 1 hts (gV w_1428 w_1430 wp_96 w_11 w_1431) rfl rfl rfl ⟨rfl, hd_X10_readCell⟩ ⟨Nat.le_of_ble_eq_true rfl, Nat.le_of_ble_eq_true rfl⟩) (mV hK hZ hP hD [1, 2, 0] rfl rfl [.int 1] 1 10 rfl rfl) rfl rfl hl.1 rfl (lv_room (Nat.le_of_ble_eq_true rfl)) dX10_readNext_116 ⟨Nat.le_of_ble_eq_true rfl, Nat.le_of_ble_eq_true rfl⟩) (fun r163 u164 H locs hw165 hP hD hS => ?_)
              obtain ⟨o_ato166, o_fromo167, o_tokeno168, o_valueo169, o_faultKindo170, o_faultPlaceo171⟩ := u164
              try dsimp only at hw165
              have hP : va_P G vwCl [(h0, oX10 b o_thrown o_taped o_size o_ato166 o_fromo167 o_tokeno168 o_valueo169 o_faultKindo170 o_faultPlaceo171 o_lawNow o_walkSet o_oneWidow o_oneTurn o_askWorst o_mayWalk o_oftenAll o_oftenRoad o_oftenPegs), (b 4, .inl (cB, 900, .inl o_f4)), (b 14, .inl (cI, 149, .inl o_f14))] H := hP
              have hD : va_D A [(h0, oX10 b o_thrown o_taped o_size o_ato166 o_fromo167 o_tokeno168 o_valueo169 o_faultKindo170 o_faultPlaceo171 o_lawNow o_walkSet o_oneWidow o_oneTurn o_askWorst o_mayWalk o_oftenAll o_oftenRoad o_oftenPegs), (b 4, .inl (cB, 900, .inl o_f4)), (b 14, .inl (cI, 149, .inl o_f14))] := hD
              obtain ⟨w172, w173, w174, w175, w176, w177, w178, w179, w180⟩ : 0 ≤ r163.toInt ∧ r163.toInt ≤ 77 ∧ 0 ≤ o_ato166.toInt ∧ o_ato166.toInt ≤ 900 ∧ 0 ≤ o_fromo167.toInt ∧ o_fromo167.toInt ≤ 900 ∧ o_ato148.toInt ≤ o_ato166.toInt ∧ (o_faultKindo170.toInt = 0 → o_faultKind.toInt = 0) ∧ (o_faultKindo170.toInt = 0 → r163.toInt / 10 < (o_f14 3).toInt ∧ r163.toInt % 10 < (o_f14 4).toInt) := hw165
              refine lv_istore_n (lv' := [(2, .int r163), (1, .int 1), (0, .ref h0)]) hx hb dX10_readNext_119 rfl hl (by decide) rfl (fun ls hl => ?_)
              refine lv_aload_n hx hb dX10_readNext_120 rfl (lv_at hl 2 rfl) ?_
              refine va_get (D := G) (ci := 10) (v := .ref (b 14)) (C := RX10) (T := TX10) (N := 46) hx hb hts iG_X10 hown hK hP 0 rfl rfl 14 (by decide) (hts _ w_1206) (fun _ h9 => h9) rfl dX10_readNext_121 ?_
              refine lv_bipush (v := 22) hx hb dX10_readNext_124 (by decide) ?_
              refine lv_aload_n hx hb dX10_readNext_126 rfl (lv_at hl 2 rfl) ?_
              refine va_get (D := G) (ci := 10) (v := .ref (b 14)) (C := RX10) (T := TX10) (N := 46) hx hb hts iG_X10 hown hK hP 0 rfl rfl 14 (by decide) (hts _ w_1206) (fun _ h9 => h9) rfl dX10_readNext_127 ?_
              refine lv_bipush (v := 6) hx hb dX10_readNext_130 (by decide) ?_
              refine va_iald hx hb hK hP 2 0 rfl rfl (ix_in ki_6 (by omega) (by omega)) dX10_readNext_132 ?_
              refine lv_topi (fun v181 ev181 => ?_)
              have tv181 : v181.toInt = (o_f14 6).toInt := by rw [ev181]; rfl
              obtain ⟨ia182, ib183⟩ := WB_6 ha_o_f14
              refine lv_iadd hx hb dX10_readNext_133 ?_
              refine lv_topi (fun v184 ev184 => ?_)
              have tv184 : v184.toInt = 22 + ((o_f14 6).toInt) := ti_add ki_22 tv181 ev184 (by omega) (by omega)
              refine lv_iload_n hx hb dX10_readNext_134 rfl (lv_at hl 0 rfl) ?_
              refine va_iast hx hb hK hP hD hS 2 0 rfl rfl (ix_in tv184 (by omega) (by omega)) dX10_readNext_135 (fun H locs hP hD hS => ?_)
              obtain ⟨f185, qf185⟩ : ∃ g, g = upd o_f14 v184.toNatClampNeg r163 := ⟨_, rfl⟩
              rw [← qf185] at hP hD
              have hb185 : WB f185 := by rw [qf185]; exact WB_putcell ha_o_f14 tv184 (by omega) (by omega) rfl (by omega) (by omega)
              have kf185_3 : (f185 3).toInt = (o_f14 3).toInt := by rw [qf185, pk_un (by rw [ix_nat tv184 (by omega)]; omega)]
              have kf185_4 : (f185 4).toInt = (o_f14 4).toInt := by rw [qf185, pk_un (by rw [ix_nat tv184 (by omega)]; omega)]
              have kf185_5 : (f185 5).toInt = (o_f14 5).toInt := by rw [qf185, pk_un (by rw [ix_nat tv184 (by omega)]; omega)]
              have kf185_6 : (f185 6).toInt = (o_f14 6).toInt := by rw [qf185, pk_un (by rw [ix_nat tv184 (by omega)]; omega)]
              have kf185_7 : (f185 7).toInt = (o_f14 7).toInt := by rw [qf185, pk_un (by rw [ix_nat tv184 (by omega)]; omega)]
              have kf185_9 : (f185 9).toInt = (o_f14 9).toInt := by rw [qf185, pk_un (by rw [ix_nat tv184 (by omega)]; omega)]
              have hg186 : o_faultKind.toInt = 0 → WG f185 := fun q9 => by rw [qf185]; exact WG_updx (hG q9) tv184 (by omega) (by omega)
              have hP : va_P G vwCl [(h0, oX10 b o_thrown o_taped o_size o_ato166 o_fromo167 o_tokeno168 o_valueo169 o_faultKindo170 o_faultPlaceo171 o_lawNow o_walkSet o_oneWidow o_oneTurn o_askWorst o_mayWalk o_oftenAll o_oftenRoad o_oftenPegs), (b 4, .inl (cB, 900, .inl o_f4)), (b 14, .inl (cI, 149, .inl f185))] H := hP
              have hD : va_D A [(h0, oX10 b o_thrown o_taped o_size o_ato166 o_fromo167 o_tokeno168 o_valueo169 o_faultKindo170 o_faultPlaceo171 o_lawNow o_walkSet o_oneWidow o_oneTurn o_askWorst o_mayWalk o_oftenAll o_oftenRoad o_oftenPegs), (b 4, .inl (cB, 900, .inl o_f4)), (b 14, .inl (cI, 149, .inl f185))] := hD
              refine lv_aload_n hx hb dX10_readNext_136 rfl (lv_at hl 2 rfl) ?_
              refine va_get (D := G) (ci := 10) (v := .ref (b 14)) (C := RX10) (T := TX10) (N := 46) hx hb hts iG_X10 hown hK hP 0 rfl rfl 14 (by decide) (hts _ w_1206) (fun _ h9 => h9) rfl dX10_readNext_137 ?_
              refine lv_bipush (v := 6) hx hb dX10_readNext_140 (by decide) ?_
              refine lv_dup2_11 hx hb dX10_readNext_142 rfl rfl ?_
              refine va_iald hx hb hK hP 2 0 rfl rfl (ix_in ki_6 (by omega) (by omega)) dX10_readNext_143 ?_
              refine lv_topi (fun v188 ev188 => ?_)
              have tv188 : v188.toInt = (f185 6).toInt := by rw [ev188]; rfl
              obtain ⟨ia189, ib190⟩ := WB_6 hb185
              refine lv_iconst (v := 1) hx hb dX10_readNext_144 (by decide) ?_
              refine lv_iadd hx hb dX10_readNext_145 ?_
              refine lv_topi (fun v191 ev191 => ?_)
              have tv191 : v191.toInt = (f185 6).toInt + 1 := ti_add tv188 ki_1 ev191 (by omega) (by omega)
              refine va_iast hx hb hK hP hD hS 2 0 rfl rfl (ix_in ki_6 (by omega) (by omega)) dX10_readNext_146 (fun H locs hP hD hS => ?_)
              obtain ⟨f192, qf192⟩ : ∃ g, g = upd f185 (6 : Int32).toNatClampNeg v191 := ⟨_, rfl⟩
              rw [← qf192] at hP hD
              have hb192 : WB f192 := by rw [qf192]; exact WB_putc 6 6 hb185 rfl rfl (by decide) tv191 (by omega) (by omega)
              have kf192_3 : (f192 3).toInt = (f185 3).toInt := by rw [qf192, pk_un (by decide)]
              have kf192_4 : (f192 4).toInt = (f185 4).toInt := by rw [qf192, pk_un (by decide)]
              have kf192_5 : (f192 5).toInt = (f185 5).toInt := by rw [qf192, pk_un (by decide)]
              have kf192_6 : (f192 6).toInt = (f185 6).toInt + 1 := by rw [qf192]; exact tv191
              have kf192_7 : (f192 7).toInt = (f185 7).toInt := by rw [qf192, pk_un (by decide)]
              have kf192_9 : (f192 9).toInt = (f185 9).toInt := by rw [qf192, pk_un (by decide)]
              have hg193 : o_faultKind.toInt = 0 → WG f192 := fun q9 => by rw [qf192]; exact WG_updx (hg186 q9) ki_6 (by omega) (by omega)
              have hP : va_P G vwCl [(h0, oX10 b o_thrown o_taped o_size o_ato166 o_fromo167 o_tokeno168 o_valueo169 o_faultKindo170 o_faultPlaceo171 o_lawNow o_walkSet o_oneWidow o_oneTurn o_askWorst o_mayWalk o_oftenAll o_oftenRoad o_oftenPegs), (b 4, .inl (cB, 900, .inl o_f4)), (b 14, .inl (cI, 149, .inl f192))] H := hP
              have hD : va_D A [(h0, oX10 b o_thrown o_taped o_size o_ato166 o_fromo167 o_tokeno168 o_valueo169 o_faultKindo170 o_faultPlaceo171 o_lawNow o_walkSet o_oneWidow o_oneTurn o_askWorst o_mayWalk o_oftenAll o_oftenRoad o_oftenPegs), (b 4, .inl (cB, 900, .inl o_f4)), (b 14, .inl (cI, 149, .inl f192))] := hD
              refine lv_goto (tgt := 158) hx hb dX10_readNext_147 (by decide) ?_
              exact hret _ _ _ _ (o_ato166, o_fromo167, o_tokeno168, o_valueo169, o_faultKindo170, o_faultPlaceo171, f192) hP hD hS dX10_readNext_158 (show 0 ≤ o_ato166.toInt ∧ o_ato166.toInt ≤ 900 ∧ 0 ≤ o_fromo167.toInt ∧ o_fromo167.toInt ≤ 900 ∧ WB f192 ∧ o_at.toInt ≤ o_ato166.toInt ∧ (o_faultKindo170.toInt = 0 → o_faultKind.toInt = 0) ∧ (o_faultKindo170.toInt = 0 → WG f192) ∧ (f192 9).toInt = (o_f14 9).toInt from ⟨w174, w175, w176, w177, hb192, (by omega), (by omega), (fun q9 => hg193 (by omega)), (by omega)⟩)
            · exact absurd a94 a161
        · skip
          refine lv_if_ne (tgt := 62) hx hb dX10_readNext_58 (by decide) (fun c195 => absurd (by decide) c195) (fun c195 => ?_)
          exact hret _ _ _ _ (o_at, o_from, o_token, o_value, o_faultKind, o_faultPlace, o_f14) (hP.sub (ws' := [(h0, oX10 b o_thrown o_taped o_size o_at o_from o_token o_value o_faultKind o_faultPlace o_lawNow o_walkSet o_oneWidow o_oneTurn o_askWorst o_mayWalk o_oftenAll o_oftenRoad o_oftenPegs), (b 4, .inl (cB, 900, .inl o_f4)), (b 14, .inl (cI, 149, .inl o_f14))]) [2, 0, 1] rfl) (hD.sub (ws' := [(h0, oX10 b o_thrown o_taped o_size o_at o_from o_token o_value o_faultKind o_faultPlace o_lawNow o_walkSet o_oneWidow o_oneTurn o_askWorst o_mayWalk o_oftenAll o_oftenRoad o_oftenPegs), (b 4, .inl (cB, 900, .inl o_f4)), (b 14, .inl (cI, 149, .inl o_f14))]) [2, 0, 1] rfl rfl) hS dX10_readNext_61 (show 0 ≤ o_at.toInt ∧ o_at.toInt ≤ 900 ∧ 0 ≤ o_from.toInt ∧ o_from.toInt ≤ 900 ∧ WB o_f14 ∧ o_at.toInt ≤ o_at.toInt ∧ (o_faultKind.toInt = 0 → o_faultKind.toInt = 0) ∧ (o_faultKind.toInt = 0 → WG o_f14) ∧ (o_f14 9).toInt = (o_f14 9).toInt from ⟨hl_o_at, hh_o_at, hl_o_from, hh_o_from, ha_o_f14, (by omega), (by omega), (fun q9 => hG (by omega)), (by omega)⟩)
    · skip
      refine lv_if_ne (tgt := 27) hx hb dX10_readNext_15 (by decide) (fun c196 => absurd (by decide) c196) (fun c196 => ?_)
      refine lv_aload_n hx hb dX10_readNext_18 rfl (lv_at hl 0 rfl) ?_
      refine va_ldcS hx hb hown (show vk_R "WidowRoadsModel" 244 "widow" (ad.1 25) s from hE.2.2.2 25 (by decide)) dX10_readNext_19 ?_
      refine k_i (wc := [(h0, oX10 b o_thrown o_taped o_size o_at o_from o_token o_value o_faultKind o_faultPlace o_lawNow o_walkSet o_oneWidow o_oneTurn o_askWorst o_mayWalk o_oftenAll o_oftenRoad o_oftenPegs), (b 4, .inl (cB, 900, .inl o_f4))]) (wr := [(b 14, .inl (cI, 149, .inl o_f14))]) hP hD hS hA [1, 2] [0] rfl rfl rfl (by decide) (va_runV (As := [.ref (ad.1 25)]) (rest := []) ⟨hx, hb, hml, hown, hts⟩ (f_X10_is l G cI cJ cZ cB cQ _ ad fm h0 25 b o_thrown o_taped o_size o_at o_from o_token o_value o_faultKind o_faultPlace o_lawNow o_walkSet o_oneWidow o_oneTurn o_askWorst o_mayWalk o_oftenAll o_oftenRoad o_oftenPegs o_f4 (by decide) hl_o_taped hh_o_taped hl_o_size hh_o_size hl_o_at hh_o_at hl_o_from hh_o_from hl_o_oneTurn hh_o_oneTurn) (cwV 1 hts (gV w_1394 w_1396 wp_90 w_11 w_1397) rfl rfl rfl ⟨rfl, hd_X10_is⟩ ⟨Nat.le_of_ble_eq_true rfl, Nat.le_of_ble_eq_true rfl⟩) (mVs hK hZ hP hD hE hS hA [1, 2] rfl rfl [.ref (ad.1 25)] 1 10 rfl rfl) rfl rfl hl.1 rfl (lv_room (Nat.le_of_ble_eq_true rfl)) dX10_readNext_21 ⟨Nat.le_of_ble_eq_true rfl, Nat.le_of_ble_eq_true rfl⟩) (fun r197 u198 H locs hw199 hP hD hS => ?_)
      try dsimp only at hw199
      have hP : va_P G vwCl [(b 14, .inl (cI, 149, .inl o_f14)), (h0, oX10 b o_thrown o_taped o_size o_at o_from o_token o_value o_faultKind o_faultPlace o_lawNow o_walkSet o_oneWidow o_oneTurn o_askWorst o_mayWalk o_oftenAll o_oftenRoad o_oftenPegs), (b 4, .inl (cB, 900, .inl o_f4))] H := hP
      have hD : va_D A [(b 14, .inl (cI, 149, .inl o_f14)), (h0, oX10 b o_thrown o_taped o_size o_at o_from o_token o_value o_faultKind o_faultPlace o_lawNow o_walkSet o_oneWidow o_oneTurn o_askWorst o_mayWalk o_oftenAll o_oftenRoad o_oftenPegs), (b 4, .inl (cB, 900, .inl o_f4))] := hD
      rcases hw199 with ⟨rfl, a201⟩ | ⟨rfl, a202⟩
      · skip
        refine lv_if_eq (tgt := 31) hx hb dX10_readNext_24 (by decide) (fun c203 => absurd c203 (by decide)) (fun c203 => ?_)
        refine lv_iconst (v := 1) hx hb dX10_readNext_27 (by decide) ?_
        refine lv_goto (tgt := 32) hx hb dX10_readNext_28 (by decide) ?_
        refine lv_istore_n (lv' := [(1, .int 1), (0, .ref h0)]) hx hb dX10_readNext_32 rfl hl (by decide) rfl (fun ls hl => ?_)
        refine lv_iload_n hx hb dX10_readNext_33 rfl (lv_at hl 0 rfl) ?_
        refine lv_if_ne (tgt := 42) hx hb dX10_readNext_34 (by decide) (fun c204 => ?_) (fun c204 => absurd c204 (by decide))
        refine lv_aload_n hx hb dX10_readNext_42 rfl (lv_at hl 1 rfl) ?_
        refine k_i (wc := [(h0, oX10 b o_thrown o_taped o_size o_at o_from o_token o_value o_faultKind o_faultPlace o_lawNow o_walkSet o_oneWidow o_oneTurn o_askWorst o_mayWalk o_oftenAll o_oftenRoad o_oftenPegs), (b 4, .inl (cB, 900, .inl o_f4)), (b 14, .inl (cI, 149, .inl o_f14))]) (wr := []) hP hD hS hA [1, 2, 0] [] rfl rfl rfl (by decide) (va_runV (As := []) (rest := []) ⟨hx, hb, hml, hown, hts⟩ (f_X10_isFull l G cI cJ cZ cB cQ _ ad fm h0 b o_thrown o_taped o_size o_at o_from o_token o_value o_faultKind o_faultPlace o_lawNow o_walkSet o_oneWidow o_oneTurn o_askWorst o_mayWalk o_oftenAll o_oftenRoad o_oftenPegs o_f4 o_f14 hl_o_taped hh_o_taped hl_o_size hh_o_size hl_o_at hh_o_at hl_o_from hh_o_from hl_o_oneTurn hh_o_oneTurn ha_o_f14) (cwV 0 hts (gV w_1424 w_1426 wp_95 w_11 w_1427) rfl rfl rfl ⟨rfl, hd_X10_isFull⟩ ⟨Nat.le_of_ble_eq_true rfl, Nat.le_of_ble_eq_true rfl⟩) (mVs hK hZ hP hD hE hS hA [1, 2, 0] rfl rfl [] 1 10 rfl rfl) rfl rfl hl.1 rfl (lv_room (Nat.le_of_ble_eq_true rfl)) dX10_readNext_43 ⟨Nat.le_of_ble_eq_true rfl, Nat.le_of_ble_eq_true rfl⟩) (fun r205 u206 H locs hw207 hP hD hS => ?_)
        try dsimp only at hw207
        have hP : va_P G vwCl [(h0, oX10 b o_thrown o_taped o_size o_at o_from o_token o_value o_faultKind o_faultPlace o_lawNow o_walkSet o_oneWidow o_oneTurn o_askWorst o_mayWalk o_oftenAll o_oftenRoad o_oftenPegs), (b 4, .inl (cB, 900, .inl o_f4)), (b 14, .inl (cI, 149, .inl o_f14))] H := hP
        have hD : va_D A [(h0, oX10 b o_thrown o_taped o_size o_at o_from o_token o_value o_faultKind o_faultPlace o_lawNow o_walkSet o_oneWidow o_oneTurn o_askWorst o_mayWalk o_oftenAll o_oftenRoad o_oftenPegs), (b 4, .inl (cB, 900, .inl o_f4)), (b 14, .inl (cI, 149, .inl o_f14))] := hD
        rcases hw207 with rfl | ⟨rfl, a209, a210, a211⟩
        · skip
          refine lv_if_eq (tgt := 54) hx hb dX10_readNext_46 (by decide) (fun c212 => absurd c212 (by decide)) (fun c212 => ?_)
          refine lv_aload_n hx hb dX10_readNext_49 rfl (lv_at hl 1 rfl) ?_
          refine lv_iconst (v := 3) hx hb dX10_readNext_50 (by decide) ?_
          refine k_v (wc := [(h0, oX10 b o_thrown o_taped o_size o_at o_from o_token o_value o_faultKind o_faultPlace o_lawNow o_walkSet o_oneWidow o_oneTurn o_askWorst o_mayWalk o_oftenAll o_oftenRoad o_oftenPegs)]) (wr := [(b 4, .inl (cB, 900, .inl o_f4)), (b 14, .inl (cI, 149, .inl o_f14))]) hP hD hS hA [0] [1, 2] rfl rfl rfl (by decide) (va_runV (As := [.int 3]) (rest := []) ⟨hx, hb, hml, hown, hts⟩ (f_X10_errs l G cI cJ cZ cB cQ _ h0 3 3 b o_thrown o_taped o_size o_at o_from o_token o_value o_faultKind o_faultPlace o_lawNow o_walkSet o_oneWidow o_oneTurn o_askWorst o_mayWalk o_oftenAll o_oftenRoad o_oftenPegs ki_3 (by omega) hl_o_taped hh_o_taped hl_o_size hh_o_size hl_o_at hh_o_at hl_o_from hh_o_from hl_o_oneTurn hh_o_oneTurn) (cwV 1 hts (gV w_1400 w_1402 wp_91 w_11 w_1403) rfl rfl rfl ⟨rfl, hd_X10_errs⟩ ⟨Nat.le_of_ble_eq_true rfl, Nat.le_of_ble_eq_true rfl⟩) (mV hK hZ hP hD [0] rfl rfl [.int 3] 0 10 rfl rfl) rfl rfl hl.1 rfl (lv_room (Nat.le_of_ble_eq_true rfl)) dX10_readNext_51 ⟨Nat.le_of_ble_eq_true rfl, Nat.le_of_ble_eq_true rfl⟩) (fun u214 H locs hw215 hP hD hS => ?_)
          obtain ⟨o_faultKindo216, o_faultPlaceo217⟩ := u214
          try dsimp only at hw215
          have hP : va_P G vwCl [(b 4, .inl (cB, 900, .inl o_f4)), (b 14, .inl (cI, 149, .inl o_f14)), (h0, oX10 b o_thrown o_taped o_size o_at o_from o_token o_value o_faultKindo216 o_faultPlaceo217 o_lawNow o_walkSet o_oneWidow o_oneTurn o_askWorst o_mayWalk o_oftenAll o_oftenRoad o_oftenPegs)] H := hP
          have hD : va_D A [(b 4, .inl (cB, 900, .inl o_f4)), (b 14, .inl (cI, 149, .inl o_f14)), (h0, oX10 b o_thrown o_taped o_size o_at o_from o_token o_value o_faultKindo216 o_faultPlaceo217 o_lawNow o_walkSet o_oneWidow o_oneTurn o_askWorst o_mayWalk o_oftenAll o_oftenRoad o_oftenPegs)] := hD
          have w218 : ¬ o_faultKindo216.toInt = 0 := hw215
          refine lv_aload_n hx hb dX10_readNext_54 rfl (lv_at hl 1 rfl) ?_
          refine k_i (wc := [(h0, oX10 b o_thrown o_taped o_size o_at o_from o_token o_value o_faultKindo216 o_faultPlaceo217 o_lawNow o_walkSet o_oneWidow o_oneTurn o_askWorst o_mayWalk o_oftenAll o_oftenRoad o_oftenPegs)]) (wr := [(b 4, .inl (cB, 900, .inl o_f4)), (b 14, .inl (cI, 149, .inl o_f14))]) hP hD hS hA [2] [0, 1] rfl rfl rfl (by decide) (va_runV (As := []) (rest := []) ⟨hx, hb, hml, hown, hts⟩ (f_X10_good l G cI cJ cZ cB cQ _ h0 b o_thrown o_taped o_size o_at o_from o_token o_value o_faultKindo216 o_faultPlaceo217 o_lawNow o_walkSet o_oneWidow o_oneTurn o_askWorst o_mayWalk o_oftenAll o_oftenRoad o_oftenPegs hl_o_taped hh_o_taped hl_o_size hh_o_size hl_o_at hh_o_at hl_o_from hh_o_from hl_o_oneTurn hh_o_oneTurn) (cwV 0 hts (gV w_1373 w_1375 wp_85 w_11 w_1376) rfl rfl rfl ⟨rfl, hd_X10_good⟩ ⟨Nat.le_of_ble_eq_true rfl, Nat.le_of_ble_eq_true rfl⟩) (mV hK hZ hP hD [2] rfl rfl [] 2 10 rfl rfl) rfl rfl hl.1 rfl (lv_room (Nat.le_of_ble_eq_true rfl)) dX10_readNext_55 ⟨Nat.le_of_ble_eq_true rfl, Nat.le_of_ble_eq_true rfl⟩) (fun r219 u220 H locs hw221 hP hD hS => ?_)
          try dsimp only at hw221
          have hP : va_P G vwCl [(b 4, .inl (cB, 900, .inl o_f4)), (b 14, .inl (cI, 149, .inl o_f14)), (h0, oX10 b o_thrown o_taped o_size o_at o_from o_token o_value o_faultKindo216 o_faultPlaceo217 o_lawNow o_walkSet o_oneWidow o_oneTurn o_askWorst o_mayWalk o_oftenAll o_oftenRoad o_oftenPegs)] H := hP
          have hD : va_D A [(b 4, .inl (cB, 900, .inl o_f4)), (b 14, .inl (cI, 149, .inl o_f14)), (h0, oX10 b o_thrown o_taped o_size o_at o_from o_token o_value o_faultKindo216 o_faultPlaceo217 o_lawNow o_walkSet o_oneWidow o_oneTurn o_askWorst o_mayWalk o_oftenAll o_oftenRoad o_oftenPegs)] := hD
          rcases hw221 with ⟨rfl, a223⟩ | ⟨rfl, a224⟩
          · exact absurd a223 (by omega)
          · skip
            refine lv_if_ne (tgt := 62) hx hb dX10_readNext_58 (by decide) (fun c225 => absurd (by decide) c225) (fun c225 => ?_)
            exact hret _ _ _ _ (o_at, o_from, o_token, o_value, o_faultKindo216, o_faultPlaceo217, o_f14) (hP.sub (ws' := [(h0, oX10 b o_thrown o_taped o_size o_at o_from o_token o_value o_faultKindo216 o_faultPlaceo217 o_lawNow o_walkSet o_oneWidow o_oneTurn o_askWorst o_mayWalk o_oftenAll o_oftenRoad o_oftenPegs), (b 4, .inl (cB, 900, .inl o_f4)), (b 14, .inl (cI, 149, .inl o_f14))]) [2, 0, 1] rfl) (hD.sub (ws' := [(h0, oX10 b o_thrown o_taped o_size o_at o_from o_token o_value o_faultKindo216 o_faultPlaceo217 o_lawNow o_walkSet o_oneWidow o_oneTurn o_askWorst o_mayWalk o_oftenAll o_oftenRoad o_oftenPegs), (b 4, .inl (cB, 900, .inl o_f4)), (b 14, .inl (cI, 149, .inl o_f14))]) [2, 0, 1] rfl rfl) hS dX10_readNext_61 (show 0 ≤ o_at.toInt ∧ o_at.toInt ≤ 900 ∧ 0 ≤ o_from.toInt ∧ o_from.toInt ≤ 900 ∧ WB o_f14 ∧ o_at.toInt ≤ o_at.toInt ∧ (o_faultKindo216.toInt = 0 → o_faultKind.toInt = 0) ∧ (o_faultKindo216.toInt = 0 → WG o_f14) ∧ (o_f14 9).toInt = (o_f14 9).toInt from ⟨hl_o_at, hh_o_at, hl_o_from, hh_o_from, ha_o_f14, (by omega), (by omega), (fun q9 => hG (by omega)), (by omega)⟩)
        · have a211x := a211.resolve_left (fun q9 => q9 a201)
          skip
          refine lv_if_eq (tgt := 54) hx hb dX10_readNext_46 (by decide) (fun c226 => ?_) (fun c226 => absurd (by decide) c226)
          refine lv_aload_n hx hb dX10_readNext_54 rfl (lv_at hl 1 rfl) ?_
          refine k_i (wc := [(h0, oX10 b o_thrown o_taped o_size o_at o_from o_token o_value o_faultKind o_faultPlace o_lawNow o_walkSet o_oneWidow o_oneTurn o_askWorst o_mayWalk o_oftenAll o_oftenRoad o_oftenPegs)]) (wr := [(b 4, .inl (cB, 900, .inl o_f4)), (b 14, .inl (cI, 149, .inl o_f14))]) hP hD hS hA [0] [1, 2] rfl rfl rfl (by decide) (va_runV (As := []) (rest := []) ⟨hx, hb, hml, hown, hts⟩ (f_X10_good l G cI cJ cZ cB cQ _ h0 b o_thrown o_taped o_size o_at o_from o_token o_value o_faultKind o_faultPlace o_lawNow o_walkSet o_oneWidow o_oneTurn o_askWorst o_mayWalk o_oftenAll o_oftenRoad o_oftenPegs hl_o_taped hh_o_taped hl_o_size hh_o_size hl_o_at hh_o_at hl_o_from hh_o_from hl_o_oneTurn hh_o_oneTurn) (cwV 0 hts (gV w_1373 w_1375 wp_85 w_11 w_1376) rfl rfl rfl ⟨rfl, hd_X10_good⟩ ⟨Nat.le_of_ble_eq_true rfl, Nat.le_of_ble_eq_true rfl⟩) (mV hK hZ hP hD [0] rfl rfl [] 0 10 rfl rfl) rfl rfl hl.1 rfl (lv_room (Nat.le_of_ble_eq_true rfl)) dX10_readNext_55 ⟨Nat.le_of_ble_eq_true rfl, Nat.le_of_ble_eq_true rfl⟩) (fun r227 u228 H locs hw229 hP hD hS => ?_)
          try dsimp only at hw229
          have hP : va_P G vwCl [(b 4, .inl (cB, 900, .inl o_f4)), (b 14, .inl (cI, 149, .inl o_f14)), (h0, oX10 b o_thrown o_taped o_size o_at o_from o_token o_value o_faultKind o_faultPlace o_lawNow o_walkSet o_oneWidow o_oneTurn o_askWorst o_mayWalk o_oftenAll o_oftenRoad o_oftenPegs)] H := hP
          have hD : va_D A [(b 4, .inl (cB, 900, .inl o_f4)), (b 14, .inl (cI, 149, .inl o_f14)), (h0, oX10 b o_thrown o_taped o_size o_at o_from o_token o_value o_faultKind o_faultPlace o_lawNow o_walkSet o_oneWidow o_oneTurn o_askWorst o_mayWalk o_oftenAll o_oftenRoad o_oftenPegs)] := hD
          rcases hw229 with ⟨rfl, a231⟩ | ⟨rfl, a232⟩
          · skip
            refine lv_if_ne (tgt := 62) hx hb dX10_readNext_58 (by decide) (fun c233 => ?_) (fun c233 => absurd c233 (by decide))
            refine lv_aload_n hx hb dX10_readNext_62 rfl (lv_at hl 1 rfl) ?_
            refine va_ldcS hx hb hown (show vk_R "WidowRoadsModel" 240 "creek" (ad.1 23) s from hE.2.2.2 23 (by decide)) dX10_readNext_63 ?_
            refine k_i (wc := [(h0, oX10 b o_thrown o_taped o_size o_at o_from o_token o_value o_faultKind o_faultPlace o_lawNow o_walkSet o_oneWidow o_oneTurn o_askWorst o_mayWalk o_oftenAll o_oftenRoad o_oftenPegs), (b 4, .inl (cB, 900, .inl o_f4))]) (wr := [(b 14, .inl (cI, 149, .inl o_f14))]) hP hD hS hA [2, 0] [1] rfl rfl rfl (by decide) (va_runV (As := [.ref (ad.1 23)]) (rest := []) ⟨hx, hb, hml, hown, hts⟩ (f_X10_takes l G cI cJ cZ cB cQ _ ad fm h0 23 b o_thrown o_taped o_size o_at o_from o_token o_value o_faultKind o_faultPlace o_lawNow o_walkSet o_oneWidow o_oneTurn o_askWorst o_mayWalk o_oftenAll o_oftenRoad o_oftenPegs o_f4 (by decide) hl_o_taped hh_o_taped hl_o_size hh_o_size hl_o_at hh_o_at hl_o_from hh_o_from hl_o_oneTurn hh_o_oneTurn) (cwV 1 hts (gV w_1390 w_1392 wp_89 w_11 w_1393) rfl rfl rfl ⟨rfl, hd_X10_takes⟩ ⟨Nat.le_of_ble_eq_true rfl, Nat.le_of_ble_eq_true rfl⟩) (mVs hK hZ hP hD hE hS hA [2, 0] rfl rfl [.ref (ad.1 23)] 2 10 rfl rfl) rfl rfl hl.1 rfl (lv_room (Nat.le_of_ble_eq_true rfl)) dX10_readNext_65 ⟨Nat.le_of_ble_eq_true rfl, Nat.le_of_ble_eq_true rfl⟩) (fun r234 u235 H locs hw236 hP hD hS => ?_)
            obtain ⟨o_ato237, o_fromo238, o_tokeno239, o_valueo240⟩ := u235
            try dsimp only at hw236
            have hP : va_P G vwCl [(b 14, .inl (cI, 149, .inl o_f14)), (h0, oX10 b o_thrown o_taped o_size o_ato237 o_fromo238 o_tokeno239 o_valueo240 o_faultKind o_faultPlace o_lawNow o_walkSet o_oneWidow o_oneTurn o_askWorst o_mayWalk o_oftenAll o_oftenRoad o_oftenPegs), (b 4, .inl (cB, 900, .inl o_f4))] H := hP
            have hD : va_D A [(b 14, .inl (cI, 149, .inl o_f14)), (h0, oX10 b o_thrown o_taped o_size o_ato237 o_fromo238 o_tokeno239 o_valueo240 o_faultKind o_faultPlace o_lawNow o_walkSet o_oneWidow o_oneTurn o_askWorst o_mayWalk o_oftenAll o_oftenRoad o_oftenPegs), (b 4, .inl (cB, 900, .inl o_f4))] := hD
            obtain ⟨w241, w242, w243, w244, w245⟩ : ((r234 = 1 ∧ isP o_faultKind.toInt o_token.toInt o_at.toInt o_from.toInt o_f4 23 ∧ o_at.toInt ≤ o_fromo238.toInt ∧ o_fromo238.toInt ≤ o_ato237.toInt ∧ (o_tokeno239.toInt = 0 ∨ o_fromo238.toInt < o_ato237.toInt)) ∨ (r234 = 0 ∧ ¬ isP o_faultKind.toInt o_token.toInt o_at.toInt o_from.toInt o_f4 23 ∧ o_at = o_ato237 ∧ o_from = o_fromo238 ∧ o_token = o_tokeno239 ∧ o_value = o_valueo240)) ∧ 0 ≤ o_ato237.toInt ∧ o_ato237.toInt ≤ 900 ∧ 0 ≤ o_fromo238.toInt ∧ o_fromo238.toInt ≤ 900 := hw236
            rcases w241 with ⟨rfl, a246, a247, a248, a249⟩ | ⟨rfl, a250, rfl, rfl, rfl, rfl⟩
            · exact absurd a246 a6
            · skip
              refine lv_if_eq (tgt := 105) hx hb dX10_readNext_68 (by decide) (fun c251 => ?_) (fun c251 => absurd (by decide) c251)
              refine lv_aload_n hx hb dX10_readNext_105 rfl (lv_at hl 1 rfl) ?_
              refine va_ldcS hx hb hown (show vk_R "WidowRoadsModel" 242 "house" (ad.1 24) s from hE.2.2.2 24 (by decide)) dX10_readNext_106 ?_
              refine k_i (wc := [(h0, oX10 b o_thrown o_taped o_size o_at o_from o_token o_value o_faultKind o_faultPlace o_lawNow o_walkSet o_oneWidow o_oneTurn o_askWorst o_mayWalk o_oftenAll o_oftenRoad o_oftenPegs), (b 4, .inl (cB, 900, .inl o_f4))]) (wr := [(b 14, .inl (cI, 149, .inl o_f14))]) hP hD hS hA [1, 2] [0] rfl rfl rfl (by decide) (va_runV (As := [.ref (ad.1 24)]) (rest := []) ⟨hx, hb, hml, hown, hts⟩ (f_X10_takes l G cI cJ cZ cB cQ _ ad fm h0 24 b o_thrown o_taped o_size o_at o_from o_token o_value o_faultKind o_faultPlace o_lawNow o_walkSet o_oneWidow o_oneTurn o_askWorst o_mayWalk o_oftenAll o_oftenRoad o_oftenPegs o_f4 (by decide) hl_o_taped hh_o_taped hl_o_size hh_o_size hl_o_at hh_o_at hl_o_from hh_o_from hl_o_oneTurn hh_o_oneTurn) (cwV 1 hts (gV w_1390 w_1392 wp_89 w_11 w_1393) rfl rfl rfl ⟨rfl, hd_X10_takes⟩ ⟨Nat.le_of_ble_eq_true rfl, Nat.le_of_ble_eq_true rfl⟩) (mVs hK hZ hP hD hE hS hA [1, 2] rfl rfl [.ref (ad.1 24)] 1 10 rfl rfl) rfl rfl hl.1 rfl (lv_room (Nat.le_of_ble_eq_true rfl)) dX10_readNext_108 ⟨Nat.le_of_ble_eq_true rfl, Nat.le_of_ble_eq_true rfl⟩) (fun r252 u253 H locs hw254 hP hD hS => ?_)
              obtain ⟨o_ato255, o_fromo256, o_tokeno257, o_valueo258⟩ := u253
              try dsimp only at hw254
              have hP : va_P G vwCl [(b 14, .inl (cI, 149, .inl o_f14)), (h0, oX10 b o_thrown o_taped o_size o_ato255 o_fromo256 o_tokeno257 o_valueo258 o_faultKind o_faultPlace o_lawNow o_walkSet o_oneWidow o_oneTurn o_askWorst o_mayWalk o_oftenAll o_oftenRoad o_oftenPegs), (b 4, .inl (cB, 900, .inl o_f4))] H := hP
              have hD : va_D A [(b 14, .inl (cI, 149, .inl o_f14)), (h0, oX10 b o_thrown o_taped o_size o_ato255 o_fromo256 o_tokeno257 o_valueo258 o_faultKind o_faultPlace o_lawNow o_walkSet o_oneWidow o_oneTurn o_askWorst o_mayWalk o_oftenAll o_oftenRoad o_oftenPegs), (b 4, .inl (cB, 900, .inl o_f4))] := hD
              obtain ⟨w259, w260, w261, w262, w263⟩ : ((r252 = 1 ∧ isP o_faultKind.toInt o_token.toInt o_at.toInt o_from.toInt o_f4 24 ∧ o_at.toInt ≤ o_fromo256.toInt ∧ o_fromo256.toInt ≤ o_ato255.toInt ∧ (o_tokeno257.toInt = 0 ∨ o_fromo256.toInt < o_ato255.toInt)) ∨ (r252 = 0 ∧ ¬ isP o_faultKind.toInt o_token.toInt o_at.toInt o_from.toInt o_f4 24 ∧ o_at = o_ato255 ∧ o_from = o_fromo256 ∧ o_token = o_tokeno257 ∧ o_value = o_valueo258)) ∧ 0 ≤ o_ato255.toInt ∧ o_ato255.toInt ≤ 900 ∧ 0 ≤ o_fromo256.toInt ∧ o_fromo256.toInt ≤ 900 := hw254
              rcases w259 with ⟨rfl, a264, a265, a266, a267⟩ | ⟨rfl, a268, rfl, rfl, rfl, rfl⟩
              · exact absurd a264 a95
              · skip
                refine lv_if_eq (tgt := 150) hx hb dX10_readNext_111 (by decide) (fun c269 => ?_) (fun c269 => absurd (by decide) c269)
                obtain ⟨wa7, wb7⟩ := WB_7 ha_o_f14
                refine lv_aload_n hx hb dX10_readNext_150 rfl (lv_at hl 1 rfl) ?_
                refine k_v (wc := [(h0, oX10 b o_thrown o_taped o_size o_at o_from o_token o_value o_faultKind o_faultPlace o_lawNow o_walkSet o_oneWidow o_oneTurn o_askWorst o_mayWalk o_oftenAll o_oftenRoad o_oftenPegs), (b 4, .inl (cB, 900, .inl o_f4))]) (wr := [(b 14, .inl (cI, 149, .inl o_f14))]) hP hD hS hA [1, 2] [0] rfl rfl rfl (by decide) (va_runV (As := []) (rest := []) ⟨hx, hb, hml, hown, hts⟩ (f_X10_advance l G cI cJ cZ cB cQ _ h0 b o_thrown o_taped o_size o_at o_from o_token o_value o_faultKind o_faultPlace o_lawNow o_walkSet o_oneWidow o_oneTurn o_askWorst o_mayWalk o_oftenAll o_oftenRoad o_oftenPegs o_f4 hl_o_taped hh_o_taped hl_o_size hh_o_size hl_o_at hh_o_at hl_o_from hh_o_from hl_o_oneTurn hh_o_oneTurn) (cwV 0 hts (gV w_1359 w_1361 wp_83 w_11 w_1362) rfl rfl rfl ⟨rfl, hd_X10_advance⟩ ⟨Nat.le_of_ble_eq_true rfl, Nat.le_of_ble_eq_true rfl⟩) (mV hK hZ hP hD [1, 2] rfl rfl [] 1 10 rfl rfl) rfl rfl hl.1 rfl (lv_room (Nat.le_of_ble_eq_true rfl)) dX10_readNext_151 ⟨Nat.le_of_ble_eq_true rfl, Nat.le_of_ble_eq_true rfl⟩) (fun u271 H locs hw272 hP hD hS => ?_)
                obtain ⟨o_ato273, o_fromo274, o_tokeno275, o_valueo276⟩ := u271
                try dsimp only at hw272
                have hP : va_P G vwCl [(b 14, .inl (cI, 149, .inl o_f14)), (h0, oX10 b o_thrown o_taped o_size o_ato273 o_fromo274 o_tokeno275 o_valueo276 o_faultKind o_faultPlace o_lawNow o_walkSet o_oneWidow o_oneTurn o_askWorst o_mayWalk o_oftenAll o_oftenRoad o_oftenPegs), (b 4, .inl (cB, 900, .inl o_f4))] H := hP
                have hD : va_D A [(b 14, .inl (cI, 149, .inl o_f14)), (h0, oX10 b o_thrown o_taped o_size o_ato273 o_fromo274 o_tokeno275 o_valueo276 o_faultKind o_faultPlace o_lawNow o_walkSet o_oneWidow o_oneTurn o_askWorst o_mayWalk o_oftenAll o_oftenRoad o_oftenPegs), (b 4, .inl (cB, 900, .inl o_f4))] := hD
                obtain ⟨w277, w278, w279, w280, w281, w282, w283⟩ : 0 ≤ o_ato273.toInt ∧ o_ato273.toInt ≤ 900 ∧ 0 ≤ o_fromo274.toInt ∧ o_fromo274.toInt ≤ 900 ∧ o_at.toInt ≤ o_fromo274.toInt ∧ o_fromo274.toInt ≤ o_ato273.toInt ∧ (o_tokeno275.toInt = 0 ∨ o_fromo274.toInt < o_ato273.toInt) := hw272
                refine lv_aload_n hx hb dX10_readNext_154 rfl (lv_at hl 1 rfl) ?_
                refine k_v (wc := [(h0, oX10 b o_thrown o_taped o_size o_ato273 o_fromo274 o_tokeno275 o_valueo276 o_faultKind o_faultPlace o_lawNow o_walkSet o_oneWidow o_oneTurn o_askWorst o_mayWalk o_oftenAll o_oftenRoad o_oftenPegs), (b 4, .inl (cB, 900, .inl o_f4)), (b 14, .inl (cI, 149, .inl o_f14))]) (wr := []) hP hD hS hA [1, 2, 0] [] rfl rfl rfl (by decide) (va_runV (As := []) (rest := []) ⟨hx, hb, hml, hown, hts⟩ (f_X10_readWidow l G cI cJ cZ cB cQ _ ad fm h0 b o_thrown o_taped o_size o_ato273 o_fromo274 o_tokeno275 o_valueo276 o_faultKind o_faultPlace o_lawNow o_walkSet o_oneWidow o_oneTurn o_askWorst o_mayWalk o_oftenAll o_oftenRoad o_oftenPegs o_f4 o_f14 (fun q9 => hG (by omega)) (by omega) hl_o_taped hh_o_taped hl_o_size hh_o_size w277 w278 w279 w280 hl_o_oneTurn hh_o_oneTurn ha_o_f14) (cwV 0 hts (gV w_1436 w_1438 wp_98 w_11 w_1439) rfl rfl rfl ⟨rfl, hd_X10_readWidow⟩ ⟨Nat.le_of_ble_eq_true rfl, Nat.le_of_ble_eq_true rfl⟩) (mVs hK hZ hP hD hE hS hA [1, 2, 0] rfl rfl [] 1 10 rfl rfl) rfl rfl hl.1 rfl (lv_room (Nat.le_of_ble_eq_true rfl)) dX10_readNext_155 ⟨Nat.le_of_ble_eq_true rfl, Nat.le_of_ble_eq_true rfl⟩) (fun u285 H locs hw286 hP hD hS => ?_)
                obtain ⟨o_ato287, o_fromo288, o_tokeno289, o_valueo290, o_faultKindo291, o_faultPlaceo292, o_f14o293⟩ := u285
                try dsimp only at hw286
                have hP : va_P G vwCl [(h0, oX10 b o_thrown o_taped o_size o_ato287 o_fromo288 o_tokeno289 o_valueo290 o_faultKindo291 o_faultPlaceo292 o_lawNow o_walkSet o_oneWidow o_oneTurn o_askWorst o_mayWalk o_oftenAll o_oftenRoad o_oftenPegs), (b 4, .inl (cB, 900, .inl o_f4)), (b 14, .inl (cI, 149, .inl o_f14o293))] H := hP
                have hD : va_D A [(h0, oX10 b o_thrown o_taped o_size o_ato287 o_fromo288 o_tokeno289 o_valueo290 o_faultKindo291 o_faultPlaceo292 o_lawNow o_walkSet o_oneWidow o_oneTurn o_askWorst o_mayWalk o_oftenAll o_oftenRoad o_oftenPegs), (b 4, .inl (cB, 900, .inl o_f4)), (b 14, .inl (cI, 149, .inl o_f14o293))] := hD
                obtain ⟨w294, w295, w296, w297, w298, w299, w300, w301, w302⟩ : 0 ≤ o_ato287.toInt ∧ o_ato287.toInt ≤ 900 ∧ 0 ≤ o_fromo288.toInt ∧ o_fromo288.toInt ≤ 900 ∧ WB o_f14o293 ∧ o_ato273.toInt ≤ o_ato287.toInt ∧ (o_faultKindo291.toInt = 0 → o_faultKind.toInt = 0) ∧ (o_faultKindo291.toInt = 0 → WG o_f14o293) ∧ (o_f14o293 9).toInt = (o_f14 9).toInt := hw286
                exact hret _ _ _ _ (o_ato287, o_fromo288, o_tokeno289, o_valueo290, o_faultKindo291, o_faultPlaceo292, o_f14o293) hP hD hS dX10_readNext_158 (show 0 ≤ o_ato287.toInt ∧ o_ato287.toInt ≤ 900 ∧ 0 ≤ o_fromo288.toInt ∧ o_fromo288.toInt ≤ 900 ∧ WB o_f14o293 ∧ o_at.toInt ≤ o_ato287.toInt ∧ (o_faultKindo291.toInt = 0 → o_faultKind.toInt = 0) ∧ (o_faultKindo291.toInt = 0 → WG o_f14o293) ∧ (o_f14o293 9).toInt = (o_f14 9).toInt from ⟨w294, w295, w296, w297, w298, (by omega), (by omega), (fun q9 => w301 (by omega)), (by omega)⟩)
          · skip
            refine lv_if_ne (tgt := 62) hx hb dX10_readNext_58 (by decide) (fun c303 => absurd (by decide) c303) (fun c303 => ?_)
            exact hret _ _ _ _ (o_at, o_from, o_token, o_value, o_faultKind, o_faultPlace, o_f14) (hP.sub (ws' := [(h0, oX10 b o_thrown o_taped o_size o_at o_from o_token o_value o_faultKind o_faultPlace o_lawNow o_walkSet o_oneWidow o_oneTurn o_askWorst o_mayWalk o_oftenAll o_oftenRoad o_oftenPegs), (b 4, .inl (cB, 900, .inl o_f4)), (b 14, .inl (cI, 149, .inl o_f14))]) [2, 0, 1] rfl) (hD.sub (ws' := [(h0, oX10 b o_thrown o_taped o_size o_at o_from o_token o_value o_faultKind o_faultPlace o_lawNow o_walkSet o_oneWidow o_oneTurn o_askWorst o_mayWalk o_oftenAll o_oftenRoad o_oftenPegs), (b 4, .inl (cB, 900, .inl o_f4)), (b 14, .inl (cI, 149, .inl o_f14))]) [2, 0, 1] rfl rfl) hS dX10_readNext_61 (show 0 ≤ o_at.toInt ∧ o_at.toInt ≤ 900 ∧ 0 ≤ o_from.toInt ∧ o_from.toInt ≤ 900 ∧ WB o_f14 ∧ o_at.toInt ≤ o_at.toInt ∧ (o_faultKind.toInt = 0 → o_faultKind.toInt = 0) ∧ (o_faultKind.toInt = 0 → WG o_f14) ∧ (o_f14 9).toInt = (o_f14 9).toInt from ⟨hl_o_at, hh_o_at, hl_o_from, hh_o_from, ha_o_f14, (by omega), (by omega), (fun q9 => hG (by omega)), (by omega)⟩)
      · skip
        refine lv_if_eq (tgt := 31) hx hb dX10_readNext_24 (by decide) (fun c304 => ?_) (fun c304 => absurd (by decide) c304)
        refine lv_iconst (v := 0) hx hb dX10_readNext_31 (by decide) ?_
        refine lv_istore_n (lv' := [(1, .int 0), (0, .ref h0)]) hx hb dX10_readNext_32 rfl hl (by decide) rfl (fun ls hl => ?_)
        refine lv_iload_n hx hb dX10_readNext_33 rfl (lv_at hl 0 rfl) ?_
        refine lv_if_ne (tgt := 42) hx hb dX10_readNext_34 (by decide) (fun c305 => absurd (by decide) c305) (fun c305 => ?_)
        refine lv_aload_n hx hb dX10_readNext_37 rfl (lv_at hl 1 rfl) ?_
        refine lv_iconst (v := 1) hx hb dX10_readNext_38 (by decide) ?_
        refine k_v (wc := [(h0, oX10 b o_thrown o_taped o_size o_at o_from o_token o_value o_faultKind o_faultPlace o_lawNow o_walkSet o_oneWidow o_oneTurn o_askWorst o_mayWalk o_oftenAll o_oftenRoad o_oftenPegs)]) (wr := [(b 14, .inl (cI, 149, .inl o_f14)), (b 4, .inl (cB, 900, .inl o_f4))]) hP hD hS hA [1] [0, 2] rfl rfl rfl (by decide) (va_runV (As := [.int 1]) (rest := []) ⟨hx, hb, hml, hown, hts⟩ (f_X10_errs l G cI cJ cZ cB cQ _ h0 1 1 b o_thrown o_taped o_size o_at o_from o_token o_value o_faultKind o_faultPlace o_lawNow o_walkSet o_oneWidow o_oneTurn o_askWorst o_mayWalk o_oftenAll o_oftenRoad o_oftenPegs ki_1 (by omega) hl_o_taped hh_o_taped hl_o_size hh_o_size hl_o_at hh_o_at hl_o_from hh_o_from hl_o_oneTurn hh_o_oneTurn) (cwV 1 hts (gV w_1400 w_1402 wp_91 w_11 w_1403) rfl rfl rfl ⟨rfl, hd_X10_errs⟩ ⟨Nat.le_of_ble_eq_true rfl, Nat.le_of_ble_eq_true rfl⟩) (mV hK hZ hP hD [1] rfl rfl [.int 1] 1 10 rfl rfl) rfl rfl hl.1 rfl (lv_room (Nat.le_of_ble_eq_true rfl)) dX10_readNext_39 ⟨Nat.le_of_ble_eq_true rfl, Nat.le_of_ble_eq_true rfl⟩) (fun u307 H locs hw308 hP hD hS => ?_)
        obtain ⟨o_faultKindo309, o_faultPlaceo310⟩ := u307
        try dsimp only at hw308
        have hP : va_P G vwCl [(b 14, .inl (cI, 149, .inl o_f14)), (b 4, .inl (cB, 900, .inl o_f4)), (h0, oX10 b o_thrown o_taped o_size o_at o_from o_token o_value o_faultKindo309 o_faultPlaceo310 o_lawNow o_walkSet o_oneWidow o_oneTurn o_askWorst o_mayWalk o_oftenAll o_oftenRoad o_oftenPegs)] H := hP
        have hD : va_D A [(b 14, .inl (cI, 149, .inl o_f14)), (b 4, .inl (cB, 900, .inl o_f4)), (h0, oX10 b o_thrown o_taped o_size o_at o_from o_token o_value o_faultKindo309 o_faultPlaceo310 o_lawNow o_walkSet o_oneWidow o_oneTurn o_askWorst o_mayWalk o_oftenAll o_oftenRoad o_oftenPegs)] := hD
        have w311 : ¬ o_faultKindo309.toInt = 0 := hw308
        refine lv_aload_n hx hb dX10_readNext_42 rfl (lv_at hl 1 rfl) ?_
        refine k_i (wc := [(h0, oX10 b o_thrown o_taped o_size o_at o_from o_token o_value o_faultKindo309 o_faultPlaceo310 o_lawNow o_walkSet o_oneWidow o_oneTurn o_askWorst o_mayWalk o_oftenAll o_oftenRoad o_oftenPegs), (b 4, .inl (cB, 900, .inl o_f4)), (b 14, .inl (cI, 149, .inl o_f14))]) (wr := []) hP hD hS hA [2, 1, 0] [] rfl rfl rfl (by decide) (va_runV (As := []) (rest := []) ⟨hx, hb, hml, hown, hts⟩ (f_X10_isFull l G cI cJ cZ cB cQ _ ad fm h0 b o_thrown o_taped o_size o_at o_from o_token o_value o_faultKindo309 o_faultPlaceo310 o_lawNow o_walkSet o_oneWidow o_oneTurn o_askWorst o_mayWalk o_oftenAll o_oftenRoad o_oftenPegs o_f4 o_f14 hl_o_taped hh_o_taped hl_o_size hh_o_size hl_o_at hh_o_at hl_o_from hh_o_from hl_o_oneTurn hh_o_oneTurn ha_o_f14) (cwV 0 hts (gV w_1424 w_1426 wp_95 w_11 w_1427) rfl rfl rfl ⟨rfl, hd_X10_isFull⟩ ⟨Nat.le_of_ble_eq_true rfl, Nat.le_of_ble_eq_true rfl⟩) (mVs hK hZ hP hD hE hS hA [2, 1, 0] rfl rfl [] 2 10 rfl rfl) rfl rfl hl.1 rfl (lv_room (Nat.le_of_ble_eq_true rfl)) dX10_readNext_43 ⟨Nat.le_of_ble_eq_true rfl, Nat.le_of_ble_eq_true rfl⟩) (fun r312 u313 H locs hw314 hP hD hS => ?_)
        try dsimp only at hw314
        have hP : va_P G vwCl [(h0, oX10 b o_thrown o_taped o_size o_at o_from o_token o_value o_faultKindo309 o_faultPlaceo310 o_lawNow o_walkSet o_oneWidow o_oneTurn o_askWorst o_mayWalk o_oftenAll o_oftenRoad o_oftenPegs), (b 4, .inl (cB, 900, .inl o_f4)), (b 14, .inl (cI, 149, .inl o_f14))] H := hP
        have hD : va_D A [(h0, oX10 b o_thrown o_taped o_size o_at o_from o_token o_value o_faultKindo309 o_faultPlaceo310 o_lawNow o_walkSet o_oneWidow o_oneTurn o_askWorst o_mayWalk o_oftenAll o_oftenRoad o_oftenPegs), (b 4, .inl (cB, 900, .inl o_f4)), (b 14, .inl (cI, 149, .inl o_f14))] := hD
        rcases hw314 with rfl | ⟨rfl, a316, a317, a318⟩
        · skip
          refine lv_if_eq (tgt := 54) hx hb dX10_readNext_46 (by decide) (fun c319 => absurd c319 (by decide)) (fun c319 => ?_)
          refine lv_aload_n hx hb dX10_readNext_49 rfl (lv_at hl 1 rfl) ?_
          refine lv_iconst (v := 3) hx hb dX10_readNext_50 (by decide) ?_
          refine k_v (wc := [(h0, oX10 b o_thrown o_taped o_size o_at o_from o_token o_value o_faultKindo309 o_faultPlaceo310 o_lawNow o_walkSet o_oneWidow o_oneTurn o_askWorst o_mayWalk o_oftenAll o_oftenRoad o_oftenPegs)]) (wr := [(b 4, .inl (cB, 900, .inl o_f4)), (b 14, .inl (cI, 149, .inl o_f14))]) hP hD hS hA [0] [1, 2] rfl rfl rfl (by decide) (va_runV (As := [.int 3]) (rest := []) ⟨hx, hb, hml, hown, hts⟩ (f_X10_errs l G cI cJ cZ cB cQ _ h0 3 3 b o_thrown o_taped o_size o_at o_from o_token o_value o_faultKindo309 o_faultPlaceo310 o_lawNow o_walkSet o_oneWidow o_oneTurn o_askWorst o_mayWalk o_oftenAll o_oftenRoad o_oftenPegs ki_3 (by omega) hl_o_taped hh_o_taped hl_o_size hh_o_size hl_o_at hh_o_at hl_o_from hh_o_from hl_o_oneTurn hh_o_oneTurn) (cwV 1 hts (gV w_1400 w_1402 wp_91 w_11 w_1403) rfl rfl rfl ⟨rfl, hd_X10_errs⟩ ⟨Nat.le_of_ble_eq_true rfl, Nat.le_of_ble_eq_true rfl⟩) (mV hK hZ hP hD [0] rfl rfl [.int 3] 0 10 rfl rfl) rfl rfl hl.1 rfl (lv_room (Nat.le_of_ble_eq_true rfl)) dX10_readNext_51 ⟨Nat.le_of_ble_eq_true rfl, Nat.le_of_ble_eq_true rfl⟩) (fun u321 H locs hw322 hP hD hS => ?_)
          obtain ⟨o_faultKindo323, o_faultPlaceo324⟩ := u321
          try dsimp only at hw322
          have hP : va_P G vwCl [(b 4, .inl (cB, 900, .inl o_f4)), (b 14, .inl (cI, 149, .inl o_f14)), (h0, oX10 b o_thrown o_taped o_size o_at o_from o_token o_value o_faultKindo323 o_faultPlaceo324 o_lawNow o_walkSet o_oneWidow o_oneTurn o_askWorst o_mayWalk o_oftenAll o_oftenRoad o_oftenPegs)] H := hP
          have hD : va_D A [(b 4, .inl (cB, 900, .inl o_f4)), (b 14, .inl (cI, 149, .inl o_f14)), (h0, oX10 b o_thrown o_taped o_size o_at o_from o_token o_value o_faultKindo323 o_faultPlaceo324 o_lawNow o_walkSet o_oneWidow o_oneTurn o_askWorst o_mayWalk o_oftenAll o_oftenRoad o_oftenPegs)] := hD
          have w325 : ¬ o_faultKindo323.toInt = 0 := hw322
          refine lv_aload_n hx hb dX10_readNext_54 rfl (lv_at hl 1 rfl) ?_
          refine k_i (wc := [(h0, oX10 b o_thrown o_taped o_size o_at o_from o_token o_value o_faultKindo323 o_faultPlaceo324 o_lawNow o_walkSet o_oneWidow o_oneTurn o_askWorst o_mayWalk o_oftenAll o_oftenRoad o_oftenPegs)]) (wr := [(b 4, .inl (cB, 900, .inl o_f4)), (b 14, .inl (cI, 149, .inl o_f14))]) hP hD hS hA [2] [0, 1] rfl rfl rfl (by decide) (va_runV (As := []) (rest := []) ⟨hx, hb, hml, hown, hts⟩ (f_X10_good l G cI cJ cZ cB cQ _ h0 b o_thrown o_taped o_size o_at o_from o_token o_value o_faultKindo323 o_faultPlaceo324 o_lawNow o_walkSet o_oneWidow o_oneTurn o_askWorst o_mayWalk o_oftenAll o_oftenRoad o_oftenPegs hl_o_taped hh_o_taped hl_o_size hh_o_size hl_o_at hh_o_at hl_o_from hh_o_from hl_o_oneTurn hh_o_oneTurn) (cwV 0 hts (gV w_1373 w_1375 wp_85 w_11 w_1376) rfl rfl rfl ⟨rfl, hd_X10_good⟩ ⟨Nat.le_of_ble_eq_true rfl, Nat.le_of_ble_eq_true rfl⟩) (mV hK hZ hP hD [2] rfl rfl [] 2 10 rfl rfl) rfl rfl hl.1 rfl (lv_room (Nat.le_of_ble_eq_true rfl)) dX10_readNext_55 ⟨Nat.le_of_ble_eq_true rfl, Nat.le_of_ble_eq_true rfl⟩) (fun r326 u327 H locs hw328 hP hD hS => ?_)
          try dsimp only at hw328
          have hP : va_P G vwCl [(b 4, .inl (cB, 900, .inl o_f4)), (b 14, .inl (cI, 149, .inl o_f14)), (h0, oX10 b o_thrown o_taped o_size o_at o_from o_token o_value o_faultKindo323 o_faultPlaceo324 o_lawNow o_walkSet o_oneWidow o_oneTurn o_askWorst o_mayWalk o_oftenAll o_oftenRoad o_oftenPegs)] H := hP
          have hD : va_D A [(b 4, .inl (cB, 900, .inl o_f4)), (b 14, .inl (cI, 149, .inl o_f14)), (h0, oX10 b o_thrown o_taped o_size o_at o_from o_token o_value o_faultKindo323 o_faultPlaceo324 o_lawNow o_walkSet o_oneWidow o_oneTurn o_askWorst o_mayWalk o_oftenAll o_oftenRoad o_oftenPegs)] := hD
          rcases hw328 with ⟨rfl, a330⟩ | ⟨rfl, a331⟩
          · exact absurd a330 (by omega)
          · skip
            refine lv_if_ne (tgt := 62) hx hb dX10_readNext_58 (by decide) (fun c332 => absurd (by decide) c332) (fun c332 => ?_)
            exact hret _ _ _ _ (o_at, o_from, o_token, o_value, o_faultKindo323, o_faultPlaceo324, o_f14) (hP.sub (ws' := [(h0, oX10 b o_thrown o_taped o_size o_at o_from o_token o_value o_faultKindo323 o_faultPlaceo324 o_lawNow o_walkSet o_oneWidow o_oneTurn o_askWorst o_mayWalk o_oftenAll o_oftenRoad o_oftenPegs), (b 4, .inl (cB, 900, .inl o_f4)), (b 14, .inl (cI, 149, .inl o_f14))]) [2, 0, 1] rfl) (hD.sub (ws' := [(h0, oX10 b o_thrown o_taped o_size o_at o_from o_token o_value o_faultKindo323 o_faultPlaceo324 o_lawNow o_walkSet o_oneWidow o_oneTurn o_askWorst o_mayWalk o_oftenAll o_oftenRoad o_oftenPegs), (b 4, .inl (cB, 900, .inl o_f4)), (b 14, .inl (cI, 149, .inl o_f14))]) [2, 0, 1] rfl rfl) hS dX10_readNext_61 (show 0 ≤ o_at.toInt ∧ o_at.toInt ≤ 900 ∧ 0 ≤ o_from.toInt ∧ o_from.toInt ≤ 900 ∧ WB o_f14 ∧ o_at.toInt ≤ o_at.toInt ∧ (o_faultKindo323.toInt = 0 → o_faultKind.toInt = 0) ∧ (o_faultKindo323.toInt = 0 → WG o_f14) ∧ (o_f14 9).toInt = (o_f14 9).toInt from ⟨hl_o_at, hh_o_at, hl_o_from, hh_o_from, ha_o_f14, (by omega), (by omega), (fun q9 => hG (by omega)), (by omega)⟩)
        · skip
          refine lv_if_eq (tgt := 54) hx hb dX10_readNext_46 (by decide) (fun c333 => ?_) (fun c333 => absurd (by decide) c333)
          refine lv_aload_n hx hb dX10_readNext_54 rfl (lv_at hl 1 rfl) ?_
          refine k_i (wc := [(h0, oX10 b o_thrown o_taped o_size o_at o_from o_token o_value o_faultKindo309 o_faultPlaceo310 o_lawNow o_walkSet o_oneWidow o_oneTurn o_askWorst o_mayWalk o_oftenAll o_oftenRoad o_oftenPegs)]) (wr := [(b 4, .inl (cB, 900, .inl o_f4)), (b 14, .inl (cI, 149, .inl o_f14))]) hP hD hS hA [0] [1, 2] rfl rfl rfl (by decide) (va_runV (As := []) (rest := []) ⟨hx, hb, hml, hown, hts⟩ (f_X10_good l G cI cJ cZ cB cQ _ h0 b o_thrown o_taped o_size o_at o_from o_token o_value o_faultKindo309 o_faultPlaceo310 o_lawNow o_walkSet o_oneWidow o_oneTurn o_askWorst o_mayWalk o_oftenAll o_oftenRoad o_oftenPegs hl_o_taped hh_o_taped hl_o_size hh_o_size hl_o_at hh_o_at hl_o_from hh_o_from hl_o_oneTurn hh_o_oneTurn) (cwV 0 hts (gV w_1373 w_1375 wp_85 w_11 w_1376) rfl rfl rfl ⟨rfl, hd_X10_good⟩ ⟨Nat.le_of_ble_eq_true rfl, Nat.le_of_ble_eq_true rfl⟩) (mV hK hZ hP hD [0] rfl rfl [] 0 10 rfl rfl) rfl rfl hl.1 rfl (lv_room (Nat.le_of_ble_eq_true rfl)) dX10_readNext_55 ⟨Nat.le_of_ble_eq_true rfl, Nat.le_of_ble_eq_true rfl⟩) (fun r334 u335 H locs hw336 hP hD hS => ?_)
          try dsimp only at hw336
          have hP : va_P G vwCl [(b 4, .inl (cB, 900, .inl o_f4)), (b 14, .inl (cI, 149, .inl o_f14)), (h0, oX10 b o_thrown o_taped o_size o_at o_from o_token o_value o_faultKindo309 o_faultPlaceo310 o_lawNow o_walkSet o_oneWidow o_oneTurn o_askWorst o_mayWalk o_oftenAll o_oftenRoad o_oftenPegs)] H := hP
          have hD : va_D A [(b 4, .inl (cB, 900, .inl o_f4)), (b 14, .inl (cI, 149, .inl o_f14)), (h0, oX10 b o_thrown o_taped o_size o_at o_from o_token o_value o_faultKindo309 o_faultPlaceo310 o_lawNow o_walkSet o_oneWidow o_oneTurn o_askWorst o_mayWalk o_oftenAll o_oftenRoad o_oftenPegs)] := hD
          rcases hw336 with ⟨rfl, a338⟩ | ⟨rfl, a339⟩
          · exact absurd a338 (by omega)
          · skip
            refine lv_if_ne (tgt := 62) hx hb dX10_readNext_58 (by decide) (fun c340 => absurd (by decide) c340) (fun c340 => ?_)
            exact hret _ _ _ _ (o_at, o_from, o_token, o_value, o_faultKindo309, o_faultPlaceo310, o_f14) (hP.sub (ws' := [(h0, oX10 b o_thrown o_taped o_size o_at o_from o_token o_value o_faultKindo309 o_faultPlaceo310 o_lawNow o_walkSet o_oneWidow o_oneTurn o_askWorst o_mayWalk o_oftenAll o_oftenRoad o_oftenPegs), (b 4, .inl (cB, 900, .inl o_f4)), (b 14, .inl (cI, 149, .inl o_f14))]) [2, 0, 1] rfl) (hD.sub (ws' := [(h0, oX10 b o_thrown o_taped o_size o_at o_from o_token o_value o_faultKindo309 o_faultPlaceo310 o_lawNow o_walkSet o_oneWidow o_oneTurn o_askWorst o_mayWalk o_oftenAll o_oftenRoad o_oftenPegs), (b 4, .inl (cB, 900, .inl o_f4)), (b 14, .inl (cI, 149, .inl o_f14))]) [2, 0, 1] rfl rfl) hS dX10_readNext_61 (show 0 ≤ o_at.toInt ∧ o_at.toInt ≤ 900 ∧ 0 ≤ o_from.toInt ∧ o_from.toInt ≤ 900 ∧ WB o_f14 ∧ o_at.toInt ≤ o_at.toInt ∧ (o_faultKindo309.toInt = 0 → o_faultKind.toInt = 0) ∧ (o_faultKindo309.toInt = 0 → WG o_f14) ∧ (o_f14 9).toInt = (o_f14 9).toInt from ⟨hl_o_at, hh_o_at, hl_o_from, hh_o_from, ha_o_f14, (by omega), (by omega), (fun q9 => hG (by omega)), (by omega)⟩)
set_option maxHeartbeats 4000000 in
set_option maxRecDepth 100000 in
theorem f_X10_readLine (l : Launch) (G : va_G) (cI cJ cZ cB cQ : ClassId) (sz : Nat) (ad : AdS) (fm : Option Nat) (h0 : Nat) (b : Nat → Nat) (o_thrown : Int32) (o_taped : Int32) (o_size : Int32) (o_at : Int32) (o_from : Int32) (o_token : Int32) (o_value : Int32) (o_faultKind : Int32) (o_faultPlace : Int32) (o_lawNow : Int32) (o_walkSet : Int32) (o_oneWidow : Int32) (o_oneTurn : Int32) (o_askWorst : Int32) (o_mayWalk : Int32) (o_oftenAll : Int64) (o_oftenRoad : Int64) (o_oftenPegs : Int64) (o_f4 : Nat → Int32) (o_f14 : Nat → Int32) (hG : o_faultKind.toInt = 0 → WG o_f14) (h97 : (o_f14 9).toInt = 0 → (o_f14 7).toInt = 0) (h9 : (o_f14 9).toInt ≤ 900) (hl_o_taped : 0 ≤ o_taped.toInt) (hh_o_taped : o_taped.toInt ≤ 900) (hl_o_size : 0 ≤ o_size.toInt) (hh_o_size : o_size.toInt ≤ 900) (hl_o_at : 0 ≤ o_at.toInt) (hh_o_at : o_at.toInt ≤ 900) (hl_o_from : 0 ≤ o_from.toInt) (hh_o_from : o_from.toInt ≤ 900) (hl_o_oneTurn : 0 ≤ o_oneTurn.toInt) (hh_o_oneTurn : o_oneTurn.toInt ≤ 4) (ha_o_f14 : WB o_f14) : CVs l yX10_readLine (wl_ yX10_readLine cX10_readLine 1 none) ({ frames := 10, cells := 0, slots := 0, locals := 217 } : Room) G (TY cI cJ cZ cB cQ) [.ref h0] [(h0, oX10 b o_thrown o_taped o_size o_at o_from o_token o_value o_faultKind o_faultPlace o_lawNow o_walkSet o_oneWidow o_oneTurn o_askWorst o_mayWalk o_oftenAll o_oftenRoad o_oftenPegs), (b 4, .inl (cB, 900, .inl o_f4)), (b 14, .inl (cI, 149, .inl o_f14))] sz ad fm (fun (u : Int32 × Int32 × Int32 × Int32 × Int32 × Int32 × (Nat → Int32)) => 0 ≤ u.1.toInt ∧ u.1.toInt ≤ 900 ∧ 0 ≤ u.2.1.toInt ∧ u.2.1.toInt ≤ 900 ∧ WB u.2.2.2.2.2.2 ∧ o_at.toInt ≤ u.1.toInt ∧ (u.2.2.2.2.1.toInt = 0 → WG u.2.2.2.2.2.2) ∧ (u.2.2.2.2.2.2 9).toInt = (o_f14 9).toInt + 1 ∧ (¬ u.2.2.2.2.1.toInt = 0 ∨ u.2.2.1.toInt = 0 ∨ o_at.toInt < u.1.toInt)) (fun u : Int32 × Int32 × Int32 × Int32 × Int32 × Int32 × (Nat → Int32) => [(h0, oX10 b o_thrown o_taped o_size u.1 u.2.1 u.2.2.1 u.2.2.2.1 u.2.2.2.2.1 u.2.2.2.2.2.1 o_lawNow o_walkSet o_oneWidow o_oneTurn o_askWorst o_mayWalk o_oftenAll o_oftenRoad o_oftenPegs), (b 4, .inl (cB, 900, .inl o_f4)), (b 14, .inl (cI, 149, .inl u.2.2.2.2.2.2))]) 0 0 := by
  refine CVs.go (cc := cX10_readLine) (maxL := 1) (ret := none) (by decide) rfl (Nat.le_of_ble_eq_true rfl) ?_
  intro p e s m below meth c A ls Q hBd hE hret
  obtain ⟨hx, hb, hr, hml, hts, hown, hlk, hnm, hP, hK, hD, hA, hZ, hl⟩ := hBd
  have hown : s.vm.findClass RX10 = some m.cls := hown
  have hl : lv_has ls 1 [(0, .ref h0)] := hl
  have hS : va_S A s.heap s.heap [] := va_S.rf
  refine lv_aload_n hx hb dX10_readLine_0 rfl (lv_at hl 0 rfl) ?_
  refine va_get (D := G) (ci := 10) (v := .ref (b 14)) (C := RX10) (T := TX10) (N := 46) hx hb hts iG_X10 hown hK hP 0 rfl rfl 14 (by decide) (hts _ w_1206) (fun _ h9 => h9) rfl dX10_readLine_1 ?_
  refine lv_bipush (v := 9) hx hb dX10_readLine_4 (by decide) ?_
  refine va_iald hx hb hK hP 2 0 rfl rfl (ix_in ki_9 (by omega) (by omega)) dX10_readLine_6 ?_
  refine lv_topi (fun v1 ev1 => ?_)
  have tv1 : v1.toInt = (o_f14 9).toInt := by rw [ev1]; rfl
  obtain ⟨ia2, ib3⟩ := WB_9 ha_o_f14
  refine lv_if_ne (tgt := 17) hx hb dX10_readLine_7 (by decide) (fun c4 => ?_) (fun c4 => ?_)
  · have c4 := i_ne tv1 ki_0 c4
    refine lv_aload_n hx hb dX10_readLine_17 rfl (lv_at hl 0 rfl) ?_
    refine k_v (wc := [(h0, oX10 b o_thrown o_taped o_size o_at o_from o_token o_value o_faultKind o_faultPlace o_lawNow o_walkSet o_oneWidow o_oneTurn o_askWorst o_mayWalk o_oftenAll o_oftenRoad o_oftenPegs), (b 4, .inl (cB, 900, .inl o_f4)), (b 14, .inl (cI, 149, .inl o_f14))]) (wr := []) hP hD hS hA [0, 1, 2] [] rfl rfl rfl (by decide) (va_runV (As := []) (rest := []) ⟨hx, hb, hml, hown, hts⟩ (f_X10_readNext l G cI cJ cZ cB cQ _ ad fm h0 b o_thrown o_taped o_size o_at o_from o_token o_value o_faultKind o_faultPlace o_lawNow o_walkSet o_oneWidow o_oneTurn o_askWorst o_mayWalk o_oftenAll o_oftenRoad o_oftenPegs o_f4 o_f14 (fun q9 => hG (by omega)) hl_o_taped hh_o_taped hl_o_size hh_o_size hl_o_at hh_o_at hl_o_from hh_o_from hl_o_oneTurn hh_o_oneTurn ha_o_f14) (cwV 0 hts (gV w_1417 w_1419 wp_94 w_11 w_1420) rfl rfl rfl ⟨rfl, hd_X10_readNext⟩ ⟨Nat.le_of_ble_eq_true rfl, Nat.le_of_ble_eq_true rfl⟩) (mVs hK hZ hP hD hE hS hA [0, 1, 2] rfl rfl [] 0 10 rfl rfl) rfl rfl hl.1 rfl (lv_room (Nat.le_of_ble_eq_true rfl)) dX10_readLine_18 ⟨Nat.le_of_ble_eq_true rfl, Nat.le_of_ble_eq_true rfl⟩) (fun u6 H locs hw7 hP hD hS => ?_)
    obtain ⟨o_ato8, o_fromo9, o_tokeno10, o_valueo11, o_faultKindo12, o_faultPlaceo13, o_f14o14⟩ := u6
    try dsimp only at hw7
    have hP : va_P G vwCl [(h0, oX10 b o_thrown o_taped o_size o_ato8 o_fromo9 o_tokeno10 o_valueo11 o_faultKindo12 o_faultPlaceo13 o_lawNow o_walkSet o_oneWidow o_oneTurn o_askWorst o_mayWalk o_oftenAll o_oftenRoad o_oftenPegs), (b 4, .inl (cB, 900, .inl o_f4)), (b 14, .inl (cI, 149, .inl o_f14o14))] H := hP
    have hD : va_D A [(h0, oX10 b o_thrown o_taped o_size o_ato8 o_fromo9 o_tokeno10 o_valueo11 o_faultKindo12 o_faultPlaceo13 o_lawNow o_walkSet o_oneWidow o_oneTurn o_askWorst o_mayWalk o_oftenAll o_oftenRoad o_oftenPegs), (b 4, .inl (cB, 900, .inl o_f4)), (b 14, .inl (cI, 149, .inl o_f14o14))] := hD
    obtain ⟨w15, w16, w17, w18, w19, w20, w21, w22, w23⟩ : 0 ≤ o_ato8.toInt ∧ o_ato8.toInt ≤ 900 ∧ 0 ≤ o_fromo9.toInt ∧ o_fromo9.toInt ≤ 900 ∧ WB o_f14o14 ∧ o_at.toInt ≤ o_ato8.toInt ∧ (o_faultKindo12.toInt = 0 → o_faultKind.toInt = 0) ∧ (o_faultKindo12.toInt = 0 → WG o_f14o14) ∧ (o_f14o14 9).toInt = (o_f14 9).toInt := hw7
    refine lv_aload_n hx hb dX10_readLine_21 rfl (lv_at hl 0 rfl) ?_
    refine k_i (wc := [(h0, oX10 b o_thrown o_taped o_size o_ato8 o_fromo9 o_tokeno10 o_valueo11 o_faultKindo12 o_faultPlaceo13 o_lawNow o_walkSet o_oneWidow o_oneTurn o_askWorst o_mayWalk o_oftenAll o_oftenRoad o_oftenPegs)]) (wr := [(b 4, .inl (cB, 900, .inl o_f4)), (b 14, .inl (cI, 149, .inl o_f14o14))]) hP hD hS hA [0] [1, 2] rfl rfl rfl (by decide) (va_runV (As := []) (rest := []) ⟨hx, hb, hml, hown, hts⟩ (f_X10_good l G cI cJ cZ cB cQ _ h0 b o_thrown o_taped o_size o_ato8 o_fromo9 o_tokeno10 o_valueo11 o_faultKindo12 o_faultPlaceo13 o_lawNow o_walkSet o_oneWidow o_oneTurn o_askWorst o_mayWalk o_oftenAll o_oftenRoad o_oftenPegs hl_o_taped hh_o_taped hl_o_size hh_o_size w15 w16 w17 w18 hl_o_oneTurn hh_o_oneTurn) (cwV 0 hts (gV w_1373 w_1375 wp_85 w_11 w_1376) rfl rfl rfl ⟨rfl, hd_X10_good⟩ ⟨Nat.le_of_ble_eq_true rfl, Nat.le_of_ble_eq_true rfl⟩) (mV hK hZ hP hD [0] rfl rfl [] 0 10 rfl rfl) rfl rfl hl.1 rfl (lv_room (Nat.le_of_ble_eq_true rfl)) dX10_readLine_22 ⟨Nat.le_of_ble_eq_true rfl, Nat.le_of_ble_eq_true rfl⟩) (fun r24 u25 H locs hw26 hP hD hS => ?_)
    try dsimp only at hw26
    have hP : va_P G vwCl [(b 4, .inl (cB, 900, .inl o_f4)), (b 14, .inl (cI, 149, .inl o_f14o14)), (h0, oX10 b o_thrown o_taped o_size o_ato8 o_fromo9 o_tokeno10 o_valueo11 o_faultKindo12 o_faultPlaceo13 o_lawNow o_walkSet o_oneWidow o_oneTurn o_askWorst o_mayWalk o_oftenAll o_oftenRoad o_oftenPegs)] H := hP
    have hD : va_D A [(b 4, .inl (cB, 900, .inl o_f4)), (b 14, .inl (cI, 149, .inl o_f14o14)), (h0, oX10 b o_thrown o_taped o_size o_ato8 o_fromo9 o_tokeno10 o_valueo11 o_faultKindo12 o_faultPlaceo13 o_lawNow o_walkSet o_oneWidow o_oneTurn o_askWorst o_mayWalk o_oftenAll o_oftenRoad o_oftenPegs)] := hD
    rcases hw26 with ⟨rfl, a28⟩ | ⟨rfl, a29⟩
    · skip
      refine lv_if_eq (tgt := 41) hx hb dX10_readLine_25 (by decide) (fun c30 => absurd c30 (by decide)) (fun c30 => ?_)
      refine lv_aload_n hx hb dX10_readLine_28 rfl (lv_at hl 0 rfl) ?_
      refine va_get (D := G) (ci := 10) (v := .int o_tokeno10) (C := RX10) (T := TX10) (N := 46) hx hb hts iG_X10 hown hK hP 2 rfl rfl 10 (by decide) (hts _ w_1202) (fun _ h9 => h9) rfl dX10_readLine_29 ?_
      refine lv_iconst (v := 3) hx hb dX10_readLine_32 (by decide) ?_
      refine lv_icmp_eq (tgt := 41) hx hb dX10_readLine_33 (by decide) (fun c31 => ?_) (fun c31 => ?_)
      · have c31 := i_eq rfl ki_3 c31
        refine lv_aload_n hx hb dX10_readLine_41 rfl (lv_at hl 0 rfl) ?_
        refine k_i (wc := [(h0, oX10 b o_thrown o_taped o_size o_ato8 o_fromo9 o_tokeno10 o_valueo11 o_faultKindo12 o_faultPlaceo13 o_lawNow o_walkSet o_oneWidow o_oneTurn o_askWorst o_mayWalk o_oftenAll o_oftenRoad o_oftenPegs)]) (wr := [(b 4, .inl (cB, 900, .inl o_f4)), (b 14, .inl (cI, 149, .inl o_f14o14))]) hP hD hS hA [2] [0, 1] rfl rfl rfl (by decide) (va_runV (As := []) (rest := []) ⟨hx, hb, hml, hown, hts⟩ (f_X10_good l G cI cJ cZ cB cQ _ h0 b o_thrown o_taped o_size o_ato8 o_fromo9 o_tokeno10 o_valueo11 o_faultKindo12 o_faultPlaceo13 o_lawNow o_walkSet o_oneWidow o_oneTurn o_askWorst o_mayWalk o_oftenAll o_oftenRoad o_oftenPegs hl_o_taped hh_o_taped hl_o_size hh_o_size w15 w16 w17 w18 hl_o_oneTurn hh_o_oneTurn) (cwV 0 hts (gV w_1373 w_1375 wp_85 w_11 w_1376) rfl rfl rfl ⟨rfl, hd_X10_good⟩ ⟨Nat.le_of_ble_eq_true rfl, Nat.le_of_ble_eq_true rfl⟩) (mV hK hZ hP hD [2] rfl rfl [] 2 10 rfl rfl) rfl rfl hl.1 rfl (lv_room (Nat.le_of_ble_eq_true rfl)) dX10_readLine_42 ⟨Nat.le_of_ble_eq_true rfl, Nat.le_of_ble_eq_true rfl⟩) (fun r32 u33 H locs hw34 hP hD hS => ?_)
        try dsimp only at hw34
        have hP : va_P G vwCl [(b 4, .inl (cB, 900, .inl o_f4)), (b 14, .inl (cI, 149, .inl o_f14o14)), (h0, oX10 b o_thrown o_taped o_size o_ato8 o_fromo9 o_tokeno10 o_valueo11 o_faultKindo12 o_faultPlaceo13 o_lawNow o_walkSet o_oneWidow o_oneTurn o_askWorst o_mayWalk o_oftenAll o_oftenRoad o_oftenPegs)] H := hP
        have hD : va_D A [(b 4, .inl (cB, 900, .inl o_f4)), (b 14, .inl (cI, 149, .inl o_f14o14)), (h0, oX10 b o_thrown o_taped o_size o_ato8 o_fromo9 o_tokeno10 o_valueo11 o_faultKindo12 o_faultPlaceo13 o_lawNow o_walkSet o_oneWidow o_oneTurn o_askWorst o_mayWalk o_oftenAll o_oftenRoad o_oftenPegs)] := hD
        rcases hw34 with ⟨rfl, a36⟩ | ⟨rfl, a37⟩
        · skip
          refine lv_if_eq (tgt := 52) hx hb dX10_readLine_45 (by decide) (fun c38 => absurd c38 (by decide)) (fun c38 => ?_)
          refine lv_aload_n hx hb dX10_readLine_48 rfl (lv_at hl 0 rfl) ?_
          refine k_v (wc := [(h0, oX10 b o_thrown o_taped o_size o_ato8 o_fromo9 o_tokeno10 o_valueo11 o_faultKindo12 o_faultPlaceo13 o_lawNow o_walkSet o_oneWidow o_oneTurn o_askWorst o_mayWalk o_oftenAll o_oftenRoad o_oftenPegs), (b 4, .inl (cB, 900, .inl o_f4))]) (wr := [(b 14, .inl (cI, 149, .inl o_f14o14))]) hP hD hS hA [2, 0] [1] rfl rfl rfl (by decide) (va_runV (As := []) (rest := []) ⟨hx, hb, hml, hown, hts⟩ (f_X10_advance l G cI cJ cZ cB cQ _ h0 b o_thrown o_taped o_size o_ato8 o_fromo9 o_tokeno10 o_valueo11 o_faultKindo12 o_faultPlaceo13 o_lawNow o_walkSet o_oneWidow o_oneTurn o_askWorst o_mayWalk o_oftenAll o_oftenRoad o_oftenPegs o_f4 hl_o_taped hh_o_taped hl_o_size hh_o_size w15 w16 w17 w18 hl_o_oneTurn hh_o_oneTurn) (cwV 0 hts (gV w_1359 w_1361 wp_83 w_11 w_1362) rfl rfl rfl ⟨rfl, hd_X10_advance⟩ ⟨Nat.le_of_ble_eq_true rfl, Nat.le_of_ble_eq_true rfl⟩) (mV hK hZ hP hD [2, 0] rfl rfl [] 2 10 rfl rfl) rfl rfl hl.1 rfl (lv_room (Nat.le_of_ble_eq_true rfl)) dX10_readLine_49 ⟨Nat.le_of_ble_eq_true rfl, Nat.le_of_ble_eq_true rfl⟩) (fun u40 H locs hw41 hP hD hS => ?_)
          obtain ⟨o_ato42, o_fromo43, o_tokeno44, o_valueo45⟩ := u40
          try dsimp only at hw41
          have hP : va_P G vwCl [(b 14, .inl (cI, 149, .inl o_f14o14)), (h0, oX10 b o_thrown o_taped o_size o_ato42 o_fromo43 o_tokeno44 o_valueo45 o_faultKindo12 o_faultPlaceo13 o_lawNow o_walkSet o_oneWidow o_oneTurn o_askWorst o_mayWalk o_oftenAll o_oftenRoad o_oftenPegs), (b 4, .inl (cB, 900, .inl o_f4))] H := hP
          have hD : va_D A [(b 14, .inl (cI, 149, .inl o_f14o14)), (h0, oX10 b o_thrown o_taped o_size o_ato42 o_fromo43 o_tokeno44 o_valueo45 o_faultKindo12 o_faultPlaceo13 o_lawNow o_walkSet o_oneWidow o_oneTurn o_askWorst o_mayWalk o_oftenAll o_oftenRoad o_oftenPegs), (b 4, .inl (cB, 900, .inl o_f4))] := hD
          obtain ⟨w46, w47, w48, w49, w50, w51, w52⟩ : 0 ≤ o_ato42.toInt ∧ o_ato42.toInt ≤ 900 ∧ 0 ≤ o_fromo43.toInt ∧ o_fromo43.toInt ≤ 900 ∧ o_ato8.toInt ≤ o_fromo43.toInt ∧ o_fromo43.toInt ≤ o_ato42.toInt ∧ (o_tokeno44.toInt = 0 ∨ o_fromo43.toInt < o_ato42.toInt) := hw41
          refine lv_aload_n hx hb dX10_readLine_52 rfl (lv_at hl 0 rfl) ?_
          refine va_get (D := G) (ci := 10) (v := .ref (b 14)) (C := RX10) (T := TX10) (N := 46) hx hb hts iG_X10 hown hK hP 1 rfl rfl 14 (by decide) (hts _ w_1206) (fun _ h9 => h9) rfl dX10_readLine_53 ?_
          refine lv_bipush (v := 9) hx hb dX10_readLine_56 (by decide) ?_
          refine lv_dup2_11 hx hb dX10_readLine_58 rfl rfl ?_
          refine va_iald hx hb hK hP 0 0 rfl rfl (ix_in ki_9 (by omega) (by omega)) dX10_readLine_59 ?_
          refine lv_topi (fun v53 ev53 => ?_)
          have tv53 : v53.toInt = (o_f14o14 9).toInt := by rw [ev53]; rfl
          obtain ⟨ia54, ib55⟩ := WB_9 w19
          refine lv_iconst (v := 1) hx hb dX10_readLine_60 (by decide) ?_
          refine lv_iadd hx hb dX10_readLine_61 ?_
          refine lv_topi (fun v56 ev56 => ?_)
          have tv56 : v56.toInt = (o_f14o14 9).toInt + 1 := ti_add tv53 ki_1 ev56 (by omega) (by omega)
          refine va_iast hx hb hK hP hD hS 0 0 rfl rfl (ix_in ki_9 (by omega) (by omega)) dX10_readLine_62 (fun H locs hP hD hS => ?_)
          obtain ⟨f57, qf57⟩ : ∃ g, g = upd o_f14o14 (9 : Int32).toNatClampNeg v56 := ⟨_, rfl⟩
          rw [← qf57] at hP hD
          have hb57 : WB f57 := by rw [qf57]; exact WB_putc 9 901 w19 rfl rfl (by decide) tv56 (by omega) (by omega)
          have kf57_3 : (f57 3).toInt = (o_f14o14 3).toInt := by rw [qf57, pk_un (by decide)]
          have kf57_4 : (f57 4).toInt = (o_f14o14 4).toInt := by rw [qf57, pk_un (by decide)]
          have kf57_5 : (f57 5).toInt = (o_f14o14 5).toInt := by rw [qf57, pk_un (by decide)]
          have kf57_6 : (f57 6).toInt = (o_f14o14 6).toInt := by rw [qf57, pk_un (by decide)]
          have kf57_7 : (f57 7).toInt = (o_f14o14 7).toInt := by rw [qf57, pk_un (by decide)]
          have kf57_9 : (f57 9).toInt = (o_f14o14 9).toInt + 1 := by rw [qf57]; exact tv56
          have hg58 : o_faultKindo12.toInt = 0 → WG f57 := fun q9 => by rw [qf57]; exact WG_updx (w22 q9) ki_9 (by omega) (by omega)
          have hP : va_P G vwCl [(b 14, .inl (cI, 149, .inl f57)), (h0, oX10 b o_thrown o_taped o_size o_ato42 o_fromo43 o_tokeno44 o_valueo45 o_faultKindo12 o_faultPlaceo13 o_lawNow o_walkSet o_oneWidow o_oneTurn o_askWorst o_mayWalk o_oftenAll o_oftenRoad o_oftenPegs), (b 4, .inl (cB, 900, .inl o_f4))] H := hP
          have hD : va_D A [(b 14, .inl (cI, 149, .inl f57)), (h0, oX10 b o_thrown o_taped o_size o_ato42 o_fromo43 o_tokeno44 o_valueo45 o_faultKindo12 o_faultPlaceo13 o_lawNow o_walkSet o_oneWidow o_oneTurn o_askWorst o_mayWalk o_oftenAll o_oftenRoad o_oftenPegs), (b 4, .inl (cB, 900, .inl o_f4))] := hD
          exact hret _ _ _ _ (o_ato42, o_fromo43, o_tokeno44, o_valueo45, o_faultKindo12, o_faultPlaceo13, f57) (hP.sub (ws' := [(h0, oX10 b o_thrown o_taped o_size o_ato42 o_fromo43 o_tokeno44 o_valueo45 o_faultKindo12 o_faultPlaceo13 o_lawNow o_walkSet o_oneWidow o_oneTurn o_askWorst o_mayWalk o_oftenAll o_oftenRoad o_oftenPegs), (b 4, .inl (cB, 900, .inl o_f4)), (b 14, .inl (cI, 149, .inl f57))]) [1, 2, 0] rfl) (hD.sub (ws' := [(h0, oX10 b o_thrown o_taped o_size o_ato42 o_fromo43 o_tokeno44 o_valueo45 o_faultKindo12 o_faultPlaceo13 o_lawNow o_walkSet o_oneWidow o_oneTurn o_askWorst o_mayWalk o_oftenAll o_oftenRoad o_oftenPegs), (b 4, .inl (cB, 900, .inl o_f4)), (b 14, .inl (cI, 149, .inl f57))]) [1, 2, 0] rfl rfl) hS dX10_readLine_63 (show 0 ≤ o_ato42.toInt ∧ o_ato42.toInt ≤ 900 ∧ 0 ≤ o_fromo43.toInt ∧ o_fromo43.toInt ≤ 900 ∧ WB f57 ∧ o_at.toInt ≤ o_ato42.toInt ∧ (o_faultKindo12.toInt = 0 → WG f57) ∧ (f57 9).toInt = (o_f14 9).toInt + 1 ∧ (¬ o_faultKindo12.toInt = 0 ∨ o_tokeno44.toInt = 0 ∨ o_at.toInt < o_ato42.toInt) from ⟨w46, w47, w48, w49, hb57, (by omega), (fun q9 => hg58 (by omega)), (by omega), (by omega)⟩)
        · exact absurd a37 (by omega)
      · have c31 := i_ne rfl ki_3 c31
        refine lv_aload_n hx hb dX10_readLine_36 rfl (lv_at hl 0 rfl) ?_
        refine lv_iconst (v := 1) hx hb dX10_readLine_37 (by decide) ?_
        refine k_v (wc := [(h0, oX10 b o_thrown o_taped o_size o_ato8 o_fromo9 o_tokeno10 o_valueo11 o_faultKindo12 o_faultPlaceo13 o_lawNow o_walkSet o_oneWidow o_oneTurn o_askWorst o_mayWalk o_oftenAll o_oftenRoad o_oftenPegs)]) (wr := [(b 4, .inl (cB, 900, .inl o_f4)), (b 14, .inl (cI, 149, .inl o_f14o14))]) hP hD hS hA [2] [0, 1] rfl rfl rfl (by decide) (va_runV (As := [.int 1]) (rest := []) ⟨hx, hb, hml, hown, hts⟩ (f_X10_errs l G cI cJ cZ cB cQ _ h0 1 1 b o_thrown o_taped o_size o_ato8 o_fromo9 o_tokeno10 o_valueo11 o_faultKindo12 o_faultPlaceo13 o_lawNow o_walkSet o_oneWidow o_oneTurn o_askWorst o_mayWalk o_oftenAll o_oftenRoad o_oftenPegs ki_1 (by omega) hl_o_taped hh_o_taped hl_o_size hh_o_size w15 w16 w17 w18 hl_o_oneTurn hh_o_oneTurn) (cwV 1 hts (gV w_1400 w_1402 wp_91 w_11 w_1403) rfl rfl rfl ⟨rfl, hd_X10_errs⟩ ⟨Nat.le_of_ble_eq_true rfl, Nat.le_of_ble_eq_true rfl⟩) (mV hK hZ hP hD [2] rfl rfl [.int 1] 2 10 rfl rfl) rfl rfl hl.1 rfl (lv_room (Nat.le_of_ble_eq_true rfl)) dX10_readLine_38 ⟨Nat.le_of_ble_eq_true rfl, Nat.le_of_ble_eq_true rfl⟩) (fun u61 H locs hw62 hP hD hS => ?_)
        obtain ⟨o_faultKindo63, o_faultPlaceo64⟩ := u61
        try dsimp only at hw62
        have hP : va_P G vwCl [(b 4, .inl (cB, 900, .inl o_f4)), (b 14, .inl (cI, 149, .inl o_f14o14)), (h0, oX10 b o_thrown o_taped o_size o_ato8 o_fromo9 o_tokeno10 o_valueo11 o_faultKindo63 o_faultPlaceo64 o_lawNow o_walkSet o_oneWidow o_oneTurn o_askWorst o_mayWalk o_oftenAll o_oftenRoad o_oftenPegs)] H := hP
        have hD : va_D A [(b 4, .inl (cB, 900, .inl o_f4)), (b 14, .inl (cI, 149, .inl o_f14o14)), (h0, oX10 b o_thrown o_taped o_size o_ato8 o_fromo9 o_tokeno10 o_valueo11 o_faultKindo63 o_faultPlaceo64 o_lawNow o_walkSet o_oneWidow o_oneTurn o_askWorst o_mayWalk o_oftenAll o_oftenRoad o_oftenPegs)] := hD
        have w65 : ¬ o_faultKindo63.toInt = 0 := hw62
        refine lv_aload_n hx hb dX10_readLine_41 rfl (lv_at hl 0 rfl) ?_
        refine k_i (wc := [(h0, oX10 b o_thrown o_taped o_size o_ato8 o_fromo9 o_tokeno10 o_valueo11 o_faultKindo63 o_faultPlaceo64 o_lawNow o_walkSet o_oneWidow o_oneTurn o_askWorst o_mayWalk o_oftenAll o_oftenRoad o_oftenPegs)]) (wr := [(b 4, .inl (cB, 900, .inl o_f4)), (b 14, .inl (cI, 149, .inl o_f14o14))]) hP hD hS hA [2] [0, 1] rfl rfl rfl (by decide) (va_runV (As := []) (rest := []) ⟨hx, hb, hml, hown, hts⟩ (f_X10_good l G cI cJ cZ cB cQ _ h0 b o_thrown o_taped o_size o_ato8 o_fromo9 o_tokeno10 o_valueo11 o_faultKindo63 o_faultPlaceo64 o_lawNow o_walkSet o_oneWidow o_oneTurn o_askWorst o_mayWalk o_oftenAll o_oftenRoad o_oftenPegs hl_o_taped hh_o_taped hl_o_size hh_o_size w15 w16 w17 w18 hl_o_oneTurn hh_o_oneTurn) (cwV 0 hts (gV w_1373 w_1375 wp_85 w_11 w_1376) rfl rfl rfl ⟨rfl, hd_X10_good⟩ ⟨Nat.le_of_ble_eq_true rfl, Nat.le_of_ble_eq_true rfl⟩) (mV hK hZ hP hD [2] rfl rfl [] 2 10 rfl rfl) rfl rfl hl.1 rfl (lv_room (Nat.le_of_ble_eq_true rfl)) dX10_readLine_42 ⟨Nat.le_of_ble_eq_true rfl, Nat.le_of_ble_eq_true rfl⟩) (fun r66 u67 H locs hw68 hP hD hS => ?_)
        try dsimp only at hw68
        have hP : va_P G vwCl [(b 4, .inl (cB, 900, .inl o_f4)), (b 14, .inl (cI, 149, .inl o_f14o14)), (h0, oX10 b o_thrown o_taped o_size o_ato8 o_fromo9 o_tokeno10 o_valueo11 o_faultKindo63 o_faultPlaceo64 o_lawNow o_walkSet o_oneWidow o_oneTurn o_askWorst o_mayWalk o_oftenAll o_oftenRoad o_oftenPegs)] H := hP
        have hD : va_D A [(b 4, .inl (cB, 900, .inl o_f4)), (b 14, .inl (cI, 149, .inl o_f14o14)), (h0, oX10 b o_thrown o_taped o_size o_ato8 o_fromo9 o_tokeno10 o_valueo11 o_faultKindo63 o_faultPlaceo64 o_lawNow o_walkSet o_oneWidow o_oneTurn o_askWorst o_mayWalk o_oftenAll o_oftenRoad o_oftenPegs)] := hD
        rcases hw68 with ⟨rfl, a70⟩ | ⟨rfl, a71⟩
        · exact absurd a70 (by omega)
        · skip
          refine lv_if_eq (tgt := 52) hx hb dX10_readLine_45 (by decide) (fun c72 => ?_) (fun c72 => absurd (by decide) c72)
          refine lv_aload_n hx hb dX10_readLine_52 rfl (lv_at hl 0 rfl) ?_
          refine va_get (D := G) (ci := 10) (v := .ref (b 14)) (C := RX10) (T := TX10) (N := 46) hx hb hts iG_X10 hown hK hP 2 rfl rfl 14 (by decide) (hts _ w_1206) (fun _ h9 => h9) rfl dX10_readLine_53 ?_
          refine lv_bipush (v := 9) hx hb dX10_readLine_56 (by decide) ?_
          refine lv_dup2_11 hx hb dX10_readLine_58 rfl rfl ?_
          refine va_iald hx hb hK hP 1 0 rfl rfl (ix_in ki_9 (by omega) (by omega)) dX10_readLine_59 ?_
          refine lv_topi (fun v73 ev73 => ?_)
          have tv73 : v73.toInt = (o_f14o14 9).toInt := by rw [ev73]; rfl
          obtain ⟨ia74, ib75⟩ := WB_9 w19
          refine lv_iconst (v := 1) hx hb dX10_readLine_60 (by decide) ?_
          refine lv_iadd hx hb dX10_readLine_61 ?_
          refine lv_topi (fun v76 ev76 => ?_)
          have tv76 : v76.toInt = (o_f14o14 9).toInt + 1 := ti_add tv73 ki_1 ev76 (by omega) (by omega)
          refine va_iast hx hb hK hP hD hS 1 0 rfl rfl (ix_in ki_9 (by omega) (by omega)) dX10_readLine_62 (fun H locs hP hD hS => ?_)
          obtain ⟨f77, qf77⟩ : ∃ g, g = upd o_f14o14 (9 : Int32).toNatClampNeg v76 := ⟨_, rfl⟩
          rw [← qf77] at hP hD
          have hb77 : WB f77 := by rw [qf77]; exact WB_putc 9 901 w19 rfl rfl (by decide) tv76 (by omega) (by omega)
          have kf77_3 : (f77 3).toInt = (o_f14o14 3).toInt := by rw [qf77, pk_un (by decide)]
          have kf77_4 : (f77 4).toInt = (o_f14o14 4).toInt := by rw [qf77, pk_un (by decide)]
          have kf77_5 : (f77 5).toInt = (o_f14o14 5).toInt := by rw [qf77, pk_un (by decide)]
          have kf77_6 : (f77 6).toInt = (o_f14o14 6).toInt := by rw [qf77, pk_un (by decide)]
          have kf77_7 : (f77 7).toInt = (o_f14o14 7).toInt := by rw [qf77, pk_un (by decide)]
          have kf77_9 : (f77 9).toInt = (o_f14o14 9).toInt + 1 := by rw [qf77]; exact tv76
          have hg78 : o_faultKindo12.toInt = 0 → WG f77 := fun q9 => by rw [qf77]; exact WG_updx (w22 q9) ki_9 (by omega) (by omega)
          have hP : va_P G vwCl [(b 4, .inl (cB, 900, .inl o_f4)), (b 14, .inl (cI, 149, .inl f77)), (h0, oX10 b o_thrown o_taped o_size o_ato8 o_fromo9 o_tokeno10 o_valueo11 o_faultKindo63 o_faultPlaceo64 o_lawNow o_walkSet o_oneWidow o_oneTurn o_askWorst o_mayWalk o_oftenAll o_oftenRoad o_oftenPegs)] H := hP
          have hD : va_D A [(b 4, .inl (cB, 900, .inl o_f4)), (b 14, .inl (cI, 149, .inl f77)), (h0, oX10 b o_thrown o_taped o_size o_ato8 o_fromo9 o_tokeno10 o_valueo11 o_faultKindo63 o_faultPlaceo64 o_lawNow o_walkSet o_oneWidow o_oneTurn o_askWorst o_mayWalk o_oftenAll o_oftenRoad o_oftenPegs)] := hD
          exact hret _ _ _ _ (o_ato8, o_fromo9, o_tokeno10, o_valueo11, o_faultKindo63, o_faultPlaceo64, f77) (hP.sub (ws' := [(h0, oX10 b o_thrown o_taped o_size o_ato8 o_fromo9 o_tokeno10 o_valueo11 o_faultKindo63 o_faultPlaceo64 o_lawNow o_walkSet o_oneWidow o_oneTurn o_askWorst o_mayWalk o_oftenAll o_oftenRoad o_oftenPegs), (b 4, .inl (cB, 900, .inl o_f4)), (b 14, .inl (cI, 149, .inl f77))]) [2, 0, 1] rfl) (hD.sub (ws' := [(h0, oX10 b o_thrown o_taped o_size o_ato8 o_fromo9 o_tokeno10 o_valueo11 o_faultKindo63 o_faultPlaceo64 o_lawNow o_walkSet o_oneWidow o_oneTurn o_askWorst o_mayWalk o_oftenAll o_oftenRoad o_oftenPegs), (b 4, .inl (cB, 900, .inl o_f4)), (b 14, .inl (cI, 149, .inl f77))]) [2, 0, 1] rfl rfl) hS dX10_readLine_63 (show 0 ≤ o_ato8.toInt ∧ o_ato8.toInt ≤ 900 ∧ 0 ≤ o_fromo9.toInt ∧ o_fromo9.toInt ≤ 900 ∧ WB f77 ∧ o_at.toInt ≤ o_ato8.toInt ∧ (o_faultKindo63.toInt = 0 → WG f77) ∧ (f77 9).toInt = (o_f14 9).toInt + 1 ∧ (¬ o_faultKindo63.toInt = 0 ∨ o_tokeno10.toInt = 0 ∨ o_at.toInt < o_ato8.toInt) from ⟨w15, w16, w17, w18, hb77, (by omega), (fun q9 => hg78 (by omega)), (by omega), (by omega)⟩)
    · skip
      refine lv_if_eq (tgt := 41) hx hb dX10_readLine_25 (by decide) (fun c80 => ?_) (fun c80 => absurd (by decide) c80)
      refine lv_aload_n hx hb dX10_readLine_41 rfl (lv_at hl 0 rfl) ?_
      refine k_i (wc := [(h0, oX10 b o_thrown o_taped o_size o_ato8 o_fromo9 o_tokeno10 o_valueo11 o_faultKindo12 o_faultPlaceo13 o_lawNow o_walkSet o_oneWidow o_oneTurn o_askWorst o_mayWalk o_oftenAll o_oftenRoad o_oftenPegs)]) (wr := [(b 4, .inl (cB, 900, .inl o_f4)), (b 14, .inl (cI, 149, .inl o_f14o14))]) hP hD hS hA [2] [0, 1] rfl rfl rfl (by decide) (va_runV (As := []) (rest := []) ⟨hx, hb, hml, hown, hts⟩ (f_X10_good l G cI cJ cZ cB cQ _ h0 b o_thrown o_taped o_size o_ato8 o_fromo9 o_tokeno10 o_valueo11 o_faultKindo12 o_faultPlaceo13 o_lawNow o_walkSet o_oneWidow o_oneTurn o_askWorst o_mayWalk o_oftenAll o_oftenRoad o_oftenPegs hl_o_taped hh_o_taped hl_o_size hh_o_size w15 w16 w17 w18 hl_o_oneTurn hh_o_oneTurn) (cwV 0 hts (gV w_1373 w_1375 wp_85 w_11 w_1376) rfl rfl rfl ⟨rfl, hd_X10_good⟩ ⟨Nat.le_of_ble_eq_true rfl, Nat.le_of_ble_eq_true rfl⟩) (mV hK hZ hP hD [2] rfl rfl [] 2 10 rfl rfl) rfl rfl hl.1 rfl (lv_room (Nat.le_of_ble_eq_true rfl)) dX10_readLine_42 ⟨Nat.le_of_ble_eq_true rfl, Nat.le_of_ble_eq_true rfl⟩) (fun r81 u82 H locs hw83 hP hD hS => ?_)
      try dsimp only at hw83
      have hP : va_P G vwCl [(b 4, .inl (cB, 900, .inl o_f4)), (b 14, .inl (cI, 149, .inl o_f14o14)), (h0, oX10 b o_thrown o_taped o_size o_ato8 o_fromo9 o_tokeno10 o_valueo11 o_faultKindo12 o_faultPlaceo13 o_lawNow o_walkSet o_oneWidow o_oneTurn o_askWorst o_mayWalk o_oftenAll o_oftenRoad o_oftenPegs)] H := hP
      have hD : va_D A [(b 4, .inl (cB, 900, .inl o_f4)), (b 14, .inl (cI, 149, .inl o_f14o14)), (h0, oX10 b o_thrown o_taped o_size o_ato8 o_fromo9 o_tokeno10 o_valueo11 o_faultKindo12 o_faultPlaceo13 o_lawNow o_walkSet o_oneWidow o_oneTurn o_askWorst o_mayWalk o_oftenAll o_oftenRoad o_oftenPegs)] := hD
      rcases hw83 with ⟨rfl, a85⟩ | ⟨rfl, a86⟩
      · exact absurd a85 (by omega)
      · skip
        refine lv_if_eq (tgt := 52) hx hb dX10_readLine_45 (by decide) (fun c87 => ?_) (fun c87 => absurd (by decide) c87)
        refine lv_aload_n hx hb dX10_readLine_52 rfl (lv_at hl 0 rfl) ?_
        refine va_get (D := G) (ci := 10) (v := .ref (b 14)) (C := RX10) (T := TX10) (N := 46) hx hb hts iG_X10 hown hK hP 2 rfl rfl 14 (by decide) (hts _ w_1206) (fun _ h9 => h9) rfl dX10_readLine_53 ?_
        refine lv_bipush (v := 9) hx hb dX10_readLine_56 (by decide) ?_
        refine lv_dup2_11 hx hb dX10_readLine_58 rfl rfl ?_
        refine va_iald hx hb hK hP 1 0 rfl rfl (ix_in ki_9 (by omega) (by omega)) dX10_readLine_59 ?_
        refine lv_topi (fun v88 ev88 => ?_)
        have tv88 : v88.toInt = (o_f14o14 9).toInt := by rw [ev88]; rfl
        obtain ⟨ia89, ib90⟩ := WB_9 w19
        refine lv_iconst (v := 1) hx hb dX10_readLine_60 (by decide) ?_
        refine lv_iadd hx hb dX10_readLine_61 ?_
        refine lv_topi (fun v91 ev91 => ?_)
        have tv91 : v91.toInt = (o_f14o14 9).toInt + 1 := ti_add tv88 ki_1 ev91 (by omega) (by omega)
        refine va_iast hx hb hK hP hD hS 1 0 rfl rfl (ix_in ki_9 (by omega) (by omega)) dX10_readLine_62 (fun H locs hP hD hS => ?_)
        obtain ⟨f92, qf92⟩ : ∃ g, g = upd o_f14o14 (9 : Int32).toNatClampNeg v91 := ⟨_, rfl⟩
        rw [← qf92] at hP hD
        have hb92 : WB f92 := by rw [qf92]; exact WB_putc 9 901 w19 rfl rfl (by decide) tv91 (by omega) (by omega)
        have kf92_3 : (f92 3).toInt = (o_f14o14 3).toInt := by rw [qf92, pk_un (by decide)]
        have kf92_4 : (f92 4).toInt = (o_f14o14 4).toInt := by rw [qf92, pk_un (by decide)]
        have kf92_5 : (f92 5).toInt = (o_f14o14 5).toInt := by rw [qf92, pk_un (by decide)]
        have kf92_6 : (f92 6).toInt = (o_f14o14 6).toInt := by rw [qf92, pk_un (by decide)]
        have kf92_7 : (f92 7).toInt = (o_f14o14 7).toInt := by rw [qf92, pk_un (by decide)]
        have kf92_9 : (f92 9).toInt = (o_f14o14 9).toInt + 1 := by rw [qf92]; exact tv91
        have hg93 : o_faultKindo12.toInt = 0 → WG f92 := fun q9 => by rw [qf92]; exact WG_updx (w22 q9) ki_9 (by omega) (by omega)
        have hP : va_P G vwCl [(b 4, .inl (cB, 900, .inl o_f4)), (b 14, .inl (cI, 149, .inl f92)), (h0, oX10 b o_thrown o_taped o_size o_ato8 o_fromo9 o_tokeno10 o_valueo11 o_faultKindo12 o_faultPlaceo13 o_lawNow o_walkSet o_oneWidow o_oneTurn o_askWorst o_mayWalk o_oftenAll o_oftenRoad o_oftenPegs)] H := hP
        have hD : va_D A [(b 4, .inl (cB, 900, .inl o_f4)), (b 14, .inl (cI, 149, .inl f92)), (h0, oX10 b o_thrown o_taped o_size o_ato8 o_fromo9 o_tokeno10 o_valueo11 o_faultKindo12 o_faultPlaceo13 o_lawNow o_walkSet o_oneWidow o_oneTurn o_askWorst o_mayWalk o_oftenAll o_oftenRoad o_oftenPegs)] := hD
        exact hret _ _ _ _ (o_ato8, o_fromo9, o_tokeno10, o_valueo11, o_faultKindo12, o_faultPlaceo13, f92) (hP.sub (ws' := [(h0, oX10 b o_thrown o_taped o_size o_ato8 o_fromo9 o_tokeno10 o_valueo11 o_faultKindo12 o_faultPlaceo13 o_lawNow o_walkSet o_oneWidow o_oneTurn o_askWorst o_mayWalk o_oftenAll o_oftenRoad o_oftenPegs), (b 4, .inl (cB, 900, .inl o_f4)), (b 14, .inl (cI, 149, .inl f92))]) [2, 0, 1] rfl) (hD.sub (ws' := [(h0, oX10 b o_thrown o_taped o_size o_ato8 o_fromo9 o_tokeno10 o_valueo11 o_faultKindo12 o_faultPlaceo13 o_lawNow o_walkSet o_oneWidow o_oneTurn o_askWorst o_mayWalk o_oftenAll o_oftenRoad o_oftenPegs), (b 4, .inl (cB, 900, .inl o_f4)), (b 14, .inl (cI, 149, .inl f92))]) [2, 0, 1] rfl rfl) hS dX10_readLine_63 (show 0 ≤ o_ato8.toInt ∧ o_ato8.toInt ≤ 900 ∧ 0 ≤ o_fromo9.toInt ∧ o_fromo9.toInt ≤ 900 ∧ WB f92 ∧ o_at.toInt ≤ o_ato8.toInt ∧ (o_faultKindo12.toInt = 0 → WG f92) ∧ (f92 9).toInt = (o_f14 9).toInt + 1 ∧ (¬ o_faultKindo12.toInt = 0 ∨ o_tokeno10.toInt = 0 ∨ o_at.toInt < o_ato8.toInt) from ⟨w15, w16, w17, w18, hb92, (by omega), (fun q9 => hg93 (by omega)), (by omega), (by omega)⟩)
  · have c4 := i_eq tv1 ki_0 c4
    refine lv_aload_n hx hb dX10_readLine_10 rfl (lv_at hl 0 rfl) ?_
    refine k_v (wc := [(h0, oX10 b o_thrown o_taped o_size o_at o_from o_token o_value o_faultKind o_faultPlace o_lawNow o_walkSet o_oneWidow o_oneTurn o_askWorst o_mayWalk o_oftenAll o_oftenRoad o_oftenPegs), (b 4, .inl (cB, 900, .inl o_f4)), (b 14, .inl (cI, 149, .inl o_f14))]) (wr := []) hP hD hS hA [0, 1, 2] [] rfl rfl rfl (by decide) (va_runV (As := []) (rest := []) ⟨hx, hb, hml, hown, hts⟩ (f_X10_readFirst l G cI cJ cZ cB cQ _ ad fm h0 b o_thrown o_taped o_size o_at o_from o_token o_value o_faultKind o_faultPlace o_lawNow o_walkSet o_oneWidow o_oneTurn o_askWorst o_mayWalk o_oftenAll o_oftenRoad o_oftenPegs o_f4 o_f14 (by omega) hl_o_taped hh_o_taped hl_o_size hh_o_size hl_o_at hh_o_at hl_o_from hh_o_from hl_o_oneTurn hh_o_oneTurn ha_o_f14) (cwV 0 hts (gV w_1381 w_1383 wp_87 w_11 w_1384) rfl rfl rfl ⟨rfl, hd_X10_readFirst⟩ ⟨Nat.le_of_ble_eq_true rfl, Nat.le_of_ble_eq_true rfl⟩) (mVs hK hZ hP hD hE hS hA [0, 1, 2] rfl rfl [] 0 10 rfl rfl) rfl rfl hl.1 rfl (lv_room (Nat.le_of_ble_eq_true rfl)) dX10_readLine_11 ⟨Nat.le_of_ble_eq_true rfl, Nat.le_of_ble_eq_true rfl⟩) (fun u96 H locs hw97 hP hD hS => ?_)
    obtain ⟨o_ato98, o_fromo99, o_tokeno100, o_valueo101, o_faultKindo102, o_faultPlaceo103, o_f14o104⟩ := u96
    try dsimp only at hw97
    have hP : va_P G vwCl [(h0, oX10 b o_thrown o_taped o_size o_ato98 o_fromo99 o_tokeno100 o_valueo101 o_faultKindo102 o_faultPlaceo103 o_lawNow o_walkSet o_oneWidow o_oneTurn o_askWorst o_mayWalk o_oftenAll o_oftenRoad o_oftenPegs), (b 4, .inl (cB, 900, .inl o_f4)), (b 14, .inl (cI, 149, .inl o_f14o104))] H := hP
    have hD : va_D A [(h0, oX10 b o_thrown o_taped o_size o_ato98 o_fromo99 o_tokeno100 o_valueo101 o_faultKindo102 o_faultPlaceo103 o_lawNow o_walkSet o_oneWidow o_oneTurn o_askWorst o_mayWalk o_oftenAll o_oftenRoad o_oftenPegs), (b 4, .inl (cB, 900, .inl o_f4)), (b 14, .inl (cI, 149, .inl o_f14o104))] := hD
    obtain ⟨w105, w106, w107, w108, w109, w110, w111, w112, w113⟩ : 0 ≤ o_ato98.toInt ∧ o_ato98.toInt ≤ 900 ∧ 0 ≤ o_fromo99.toInt ∧ o_fromo99.toInt ≤ 900 ∧ WB o_f14o104 ∧ o_at.toInt ≤ o_ato98.toInt ∧ (o_faultKindo102.toInt = 0 → o_faultKind.toInt = 0) ∧ (o_f14o104 7).toInt = (o_f14 7).toInt ∧ (o_f14o104 9).toInt = (o_f14 9).toInt := hw97
    have hg114 : o_faultKindo102.toInt = 0 → WG o_f14o104 := fun _ => WG_none (by omega)
    refine lv_goto (tgt := 21) hx hb dX10_readLine_14 (by decide) ?_
    refine lv_aload_n hx hb dX10_readLine_21 rfl (lv_at hl 0 rfl) ?_
    refine k_i (wc := [(h0, oX10 b o_thrown o_taped o_size o_ato98 o_fromo99 o_tokeno100 o_valueo101 o_faultKindo102 o_faultPlaceo103 o_lawNow o_walkSet o_oneWidow o_oneTurn o_askWorst o_mayWalk o_oftenAll o_oftenRoad o_oftenPegs)]) (wr := [(b 4, .inl (cB, 900, .inl o_f4)), (b 14, .inl (cI, 149, .inl o_f14o104))]) hP hD hS hA [0] [1, 2] rfl rfl rfl (by decide) (va_runV (As := []) (rest := []) ⟨hx, hb, hml, hown, hts⟩ (f_X10_good l G cI cJ cZ cB cQ _ h0 b o_thrown o_taped o_size o_ato98 o_fromo99 o_tokeno100 o_valueo101 o_faultKindo102 o_faultPlaceo103 o_lawNow o_walkSet o_oneWidow o_oneTurn o_askWorst o_mayWalk o_oftenAll o_oftenRoad o_oftenPegs hl_o_taped hh_o_taped hl_o_size hh_o_size w105 w106 w107 w108 hl_o_oneTurn hh_o_oneTurn) (cwV 0 hts (gV w_1373 w_1375 wp_85 w_11 w_1376) rfl rfl rfl ⟨rfl, hd_X10_good⟩ ⟨Nat.le_of_ble_eq_true rfl, Nat.le_of_ble_eq_true rfl⟩) (mV hK hZ hP hD [0] rfl rfl [] 0 10 rfl rfl) rfl rfl hl.1 rfl (lv_room (Nat.le_of_ble_eq_true rfl)) dX10_readLine_22 ⟨Nat.le_of_ble_eq_true rfl, Nat.le_of_ble_eq_true rfl⟩) (fun r115 u116 H locs hw117 hP hD hS => ?_)
    try dsimp only at hw117
    have hP : va_P G vwCl [(b 4, .inl (cB, 900, .inl o_f4)), (b 14, .inl (cI, 149, .inl o_f14o104)), (h0, oX10 b o_thrown o_taped o_size o_ato98 o_fromo99 o_tokeno100 o_valueo101 o_faultKindo102 o_faultPlaceo103 o_lawNow o_walkSet o_oneWidow o_oneTurn o_askWorst o_mayWalk o_oftenAll o_oftenRoad o_oftenPegs)] H := hP
    have hD : va_D A [(b 4, .inl (cB, 900, .inl o_f4)), (b 14, .inl (cI, 149, .inl o_f14o104)), (h0, oX10 b o_thrown o_taped o_size o_ato98 o_fromo99 o_tokeno100 o_valueo101 o_faultKindo102 o_faultPlaceo103 o_lawNow o_walkSet o_oneWidow o_oneTurn o_askWorst o_mayWalk o_oftenAll o_oftenRoad o_oftenPegs)] := hD
    rcases hw117 with ⟨rfl, a119⟩ | ⟨rfl, a120⟩
    · skip
      refine lv_if_eq (tgt := 41) hx hb dX10_readLine_25 (by decide) (fun c121 => absurd c121 (by decide)) (fun c121 => ?_)
      refine lv_aload_n hx hb dX10_readLine_28 rfl (lv_at hl 0 rfl) ?_
      refine va_get (D := G) (ci := 10) (v := .int o_tokeno100) (C := RX10) (T := TX10) (N := 46) hx hb hts iG_X10 hown hK hP 2 rfl rfl 10 (by decide) (hts _ w_1202) (fun _ h9 => h9) rfl dX10_readLine_29 ?_
      refine lv_iconst (v := 3) hx hb dX10_readLine_32 (by decide) ?_
      refine lv_icmp_eq (tgt := 41) hx hb dX10_readLine_33 (by decide) (fun c122 => ?_) (fun c122 => ?_)
      · have c122 := i_eq rfl ki_3 c122
        refine lv_aload_n hx hb dX10_readLine_41 rfl (lv_at hl 0 rfl) ?_
        refine k_i (wc := [(h0, oX10 b o_thrown o_taped o_size o_ato98 o_fromo99 o_tokeno100 o_valueo101 o_faultKindo102 o_faultPlaceo103 o_lawNow o_walkSet o_oneWidow o_oneTurn o_askWorst o_mayWalk o_oftenAll o_oftenRoad o_oftenPegs)]) (wr := [(b 4, .inl (cB, 900, .inl o_f4)), (b 14, .inl (cI, 149, .inl o_f14o104))]) hP hD hS hA [2] [0, 1] rfl rfl rfl (by decide) (va_runV (As := []) (rest := []) ⟨hx, hb, hml, hown, hts⟩ (f_X10_good l G cI cJ cZ cB cQ _ h0 b o_thrown o_taped o_size o_ato98 o_fromo99 o_tokeno100 o_valueo101 o_faultKindo102 o_faultPlaceo103 o_lawNow o_walkSet o_oneWidow o_oneTurn o_askWorst o_mayWalk o_oftenAll o_oftenRoad o_oftenPegs hl_o_taped hh_o_taped hl_o_size hh_o_size w105 w106 w107 w108 hl_o_oneTurn hh_o_oneTurn) (cwV 0 hts (gV w_1373 w_1375 wp_85 w_11 w_1376) rfl rfl rfl ⟨rfl, hd_X10_good⟩ ⟨Nat.le_of_ble_eq_true rfl, Nat.le_of_ble_eq_true rfl⟩) (mV hK hZ hP hD [2] rfl rfl [] 2 10 rfl rfl) rfl rfl hl.1 rfl (lv_room (Nat.le_of_ble_eq_true rfl)) dX10_readLine_42 ⟨Nat.le_of_ble_eq_true rfl, Nat.le_of_ble_eq_true rfl⟩) (fun r123 u124 H locs hw125 hP hD hS => ?_)
        try dsimp only at hw125
        have hP : va_P G vwCl [(b 4, .inl (cB, 900, .inl o_f4)), (b 14, .inl (cI, 149, .inl o_f14o104)), (h0, oX10 b o_thrown o_taped o_size o_ato98 o_fromo99 o_tokeno100 o_valueo101 o_faultKindo102 o_faultPlaceo103 o_lawNow o_walkSet o_oneWidow o_oneTurn o_askWorst o_mayWalk o_oftenAll o_oftenRoad o_oftenPegs)] H := hP
        have hD : va_D A [(b 4, .inl (cB, 900, .inl o_f4)), (b 14, .inl (cI, 149, .inl o_f14o104)), (h0, oX10 b o_thrown o_taped o_size o_ato98 o_fromo99 o_tokeno100 o_valueo101 o_faultKindo102 o_faultPlaceo103 o_lawNow o_walkSet o_oneWidow o_oneTurn o_askWorst o_mayWalk o_oftenAll o_oftenRoad o_oftenPegs)] := hD
        rcases hw125 with ⟨rfl, a127⟩ | ⟨rfl, a128⟩
        · skip
          refine lv_if_eq (tgt := 52) hx hb dX10_readLine_45 (by decide) (fun c129 => absurd c129 (by decide)) (fun c129 => ?_)
          refine lv_aload_n hx hb dX10_readLine_48 rfl (lv_at hl 0 rfl) ?_
          refine k_v (wc := [(h0, oX10 b o_thrown o_taped o_size o_ato98 o_fromo99 o_tokeno100 o_valueo101 o_faultKindo102 o_faultPlaceo103 o_lawNow o_walkSet o_oneWidow o_oneTurn o_askWorst o_mayWalk o_oftenAll o_oftenRoad o_oftenPegs), (b 4, .inl (cB, 900, .inl o_f4))]) (wr := [(b 14, .inl (cI, 149, .inl o_f14o104))]) hP hD hS hA [2, 0] [1] rfl rfl rfl (by decide) (va_runV (As := []) (rest := []) ⟨hx, hb, hml, hown, hts⟩ (f_X10_advance l G cI cJ cZ cB cQ _ h0 b o_thrown o_taped o_size o_ato98 o_fromo99 o_tokeno100 o_valueo101 o_faultKindo102 o_faultPlaceo103 o_lawNow o_walkSet o_oneWidow o_oneTurn o_askWorst o_mayWalk o_oftenAll o_oftenRoad o_oftenPegs o_f4 hl_o_taped hh_o_taped hl_o_size hh_o_size w105 w106 w107 w108 hl_o_oneTurn hh_o_oneTurn) (cwV 0 hts (gV w_1359 w_1361 wp_83 w_11 w_1362) rfl rfl rfl ⟨rfl, hd_X10_advance⟩ ⟨Nat.le_of_ble_eq_true rfl, Nat.le_of_ble_eq_true rfl⟩) (mV hK hZ hP hD [2, 0] rfl rfl [] 2 10 rfl rfl) rfl rfl hl.1 rfl (lv_room (Nat.le_of_ble_eq_true rfl)) dX10_readLine_49 ⟨Nat.le_of_ble_eq_true rfl, Nat.le_of_ble_eq_true rfl⟩) (fun u131 H locs hw132 hP hD hS => ?_)
          obtain ⟨o_ato133, o_fromo134, o_tokeno135, o_valueo136⟩ := u131
          try dsimp only at hw132
          have hP : va_P G vwCl [(b 14, .inl (cI, 149, .inl o_f14o104)), (h0, oX10 b o_thrown o_taped o_size o_ato133 o_fromo134 o_tokeno135 o_valueo136 o_faultKindo102 o_faultPlaceo103 o_lawNow o_walkSet o_oneWidow o_oneTurn o_askWorst o_mayWalk o_oftenAll o_oftenRoad o_oftenPegs), (b 4, .inl (cB, 900, .inl o_f4))] H := hP
          have hD : va_D A [(b 14, .inl (cI, 149, .inl o_f14o104)), (h0, oX10 b o_thrown o_taped o_size o_ato133 o_fromo134 o_tokeno135 o_valueo136 o_faultKindo102 o_faultPlaceo103 o_lawNow o_walkSet o_oneWidow o_oneTurn o_askWorst o_mayWalk o_oftenAll o_oftenRoad o_oftenPegs), (b 4, .inl (cB, 900, .inl o_f4))] := hD
          obtain ⟨w137, w138, w139, w140, w141, w142, w143⟩ : 0 ≤ o_ato133.toInt ∧ o_ato133.toInt ≤ 900 ∧ 0 ≤ o_fromo134.toInt ∧ o_fromo134.toInt ≤ 900 ∧ o_ato98.toInt ≤ o_fromo134.toInt ∧ o_fromo134.toInt ≤ o_ato133.toInt ∧ (o_tokeno135.toInt = 0 ∨ o_fromo134.toInt < o_ato133.toInt) := hw132
          refine lv_aload_n hx hb dX10_readLine_52 rfl (lv_at hl 0 rfl) ?_
          refine va_get (D := G) (ci := 10) (v := .ref (b 14)) (C := RX10) (T := TX10) (N := 46) hx hb hts iG_X10 hown hK hP 1 rfl rfl 14 (by decide) (hts _ w_1206) (fun _ h9 => h9) rfl dX10_readLine_53 ?_
          refine lv_bipush (v := 9) hx hb dX10_readLine_56 (by decide) ?_
          refine lv_dup2_11 hx hb dX10_readLine_58 rfl rfl ?_
          refine va_iald hx hb hK hP 0 0 rfl rfl (ix_in ki_9 (by omega) (by omega)) dX10_readLine_59 ?_
          refine lv_topi (fun v144 ev144 => ?_)
          have tv144 : v144.toInt = (o_f14o104 9).toInt := by rw [ev144]; rfl
          obtain ⟨ia145, ib146⟩ := WB_9 w109
          refine lv_iconst (v := 1) hx hb dX10_readLine_60 (by decide) ?_
          refine lv_iadd hx hb dX10_readLine_61 ?_
          refine lv_topi (fun v147 ev147 => ?_)
          have tv147 : v147.toInt = (o_f14o104 9).toInt + 1 := ti_add tv144 ki_1 ev147 (by omega) (by omega)
          refine va_iast hx hb hK hP hD hS 0 0 rfl rfl (ix_in ki_9 (by omega) (by omega)) dX10_readLine_62 (fun H locs hP hD hS => ?_)
          obtain ⟨f148, qf148⟩ : ∃ g, g = upd o_f14o104 (9 : Int32).toNatClampNeg v147 := ⟨_, rfl⟩
          rw [← qf148] at hP hD
          have hb148 : WB f148 := by rw [qf148]; exact WB_putc 9 901 w109 rfl rfl (by decide) tv147 (by omega) (by omega)
          have kf148_3 : (f148 3).toInt = (o_f14o104 3).toInt := by rw [qf148, pk_un (by decide)]
          have kf148_4 : (f148 4).toInt = (o_f14o104 4).toInt := by rw [qf148, pk_un (by decide)]
          have kf148_5 : (f148 5).toInt = (o_f14o104 5).toInt := by rw [qf148, pk_un (by decide)]
          have kf148_6 : (f148 6).toInt = (o_f14o104 6).toInt := by rw [qf148, pk_un (by decide)]
          have kf148_7 : (f148 7).toInt = (o_f14o104 7).toInt := by rw [qf148, pk_un (by decide)]
          have kf148_9 : (f148 9).toInt = (o_f14o104 9).toInt + 1 := by rw [qf148]; exact tv147
          have hg149 : o_faultKindo102.toInt = 0 → WG f148 := fun q9 => by rw [qf148]; exact WG_updx (hg114 q9) ki_9 (by omega) (by omega)
          have hP : va_P G vwCl [(b 14, .inl (cI, 149, .inl f148)), (h0, oX10 b o_thrown o_taped o_size o_ato133 o_fromo134 o_tokeno135 o_valueo136 o_faultKindo102 o_faultPlaceo103 o_lawNow o_walkSet o_oneWidow o_oneTurn o_askWorst o_mayWalk o_oftenAll o_oftenRoad o_oftenPegs), (b 4, .inl (cB, 900, .inl o_f4))] H := hP
          have hD : va_D A [(b 14, .inl (cI, 149, .inl f148)), (h0, oX10 b o_thrown o_taped o_size o_ato133 o_fromo134 o_tokeno135 o_valueo136 o_faultKindo102 o_faultPlaceo103 o_lawNow o_walkSet o_oneWidow o_oneTurn o_askWorst o_mayWalk o_oftenAll o_oftenRoad o_oftenPegs), (b 4, .inl (cB, 900, .inl o_f4))] := hD
          exact hret _ _ _ _ (o_ato133, o_fromo134, o_tokeno135, o_valueo136, o_faultKindo102, o_faultPlaceo103, f148) (hP.sub (ws' := [(h0, oX10 b o_thrown o_taped o_size o_ato133 o_fromo134 o_tokeno135 o_valueo136 o_faultKindo102 o_faultPlaceo103 o_lawNow o_walkSet o_oneWidow o_oneTurn o_askWorst o_mayWalk o_oftenAll o_oftenRoad o_oftenPegs), (b 4, .inl (cB, 900, .inl o_f4)), (b 14, .inl (cI, 149, .inl f148))]) [1, 2, 0] rfl) (hD.sub (ws' := [(h0, oX10 b o_thrown o_taped o_size o_ato133 o_fromo134 o_tokeno135 o_valueo136 o_faultKindo102 o_faultPlaceo103 o_lawNow o_walkSet o_oneWidow o_oneTurn o_askWorst o_mayWalk o_oftenAll o_oftenRoad o_oftenPegs), (b 4, .inl (cB, 900, .inl o_f4)), (b 14, .inl (cI, 149, .inl f148))]) [1, 2, 0] rfl rfl) hS dX10_readLine_63 (show 0 ≤ o_ato133.toInt ∧ o_ato133.toInt ≤ 900 ∧ 0 ≤ o_fromo134.toInt ∧ o_fromo134.toInt ≤ 900 ∧ WB f148 ∧ o_at.toInt ≤ o_ato133.toInt ∧ (o_faultKindo102.toInt = 0 → WG f148) ∧ (f148 9).toInt = (o_f14 9).toInt + 1 ∧ (¬ o_faultKindo102.toInt = 0 ∨ o_tokeno135.toInt = 0 ∨ o_at.toInt < o_ato133.toInt) from ⟨w137, w138, w139, w140, hb148, (by omega), (fun q9 => hg149 (by omega)), (by omega), (by omega)⟩)
        · exact absurd a128 (by omega)
      · have c122 := i_ne rfl ki_3 c122
        refine lv_aload_n hx hb dX10_readLine_36 rfl (lv_at hl 0 rfl) ?_
        refine lv_iconst (v := 1) hx hb dX10_readLine_37 (by decide) ?_
        refine k_v (wc := [(h0, oX10 b o_thrown o_taped o_size o_ato98 o_fromo99 o_tokeno100 o_valueo101 o_faultKindo102 o_faultPlaceo103 o_lawNow o_walkSet o_oneWidow o_oneTurn o_askWorst o_mayWalk o_oftenAll o_oftenRoad o_oftenPegs)]) (wr := [(b 4, .inl (cB, 900, .inl o_f4)), (b 14, .inl (cI, 149, .inl o_f14o104))]) hP hD hS hA [2] [0, 1] rfl rfl rfl (by decide) (va_runV (As := [.int 1]) (rest := []) ⟨hx, hb, hml, hown, hts⟩ (f_X10_errs l G cI cJ cZ cB cQ _ h0 1 1 b o_thrown o_taped o_size o_ato98 o_fromo99 o_tokeno100 o_valueo101 o_faultKindo102 o_faultPlaceo103 o_lawNow o_walkSet o_oneWidow o_oneTurn o_askWorst o_mayWalk o_oftenAll o_oftenRoad o_oftenPegs ki_1 (by omega) hl_o_taped hh_o_taped hl_o_size hh_o_size w105 w106 w107 w108 hl_o_oneTurn hh_o_oneTurn) (cwV 1 hts (gV w_1400 w_1402 wp_91 w_11 w_1403) rfl rfl rfl ⟨rfl, hd_X10_errs⟩ ⟨Nat.le_of_ble_eq_true rfl, Nat.le_of_ble_eq_true rfl⟩) (mV hK hZ hP hD [2] rfl rfl [.int 1] 2 10 rfl rfl) rfl rfl hl.1 rfl (lv_room (Nat.le_of_ble_eq_true rfl)) dX10_readLine_38 ⟨Nat.le_of_ble_eq_true rfl, Nat.le_of_ble_eq_true rfl⟩) (fun u152 H locs hw153 hP hD hS => ?_)
        obtain ⟨o_faultKindo154, o_faultPlaceo155⟩ := u152
        try dsimp only at hw153
        have hP : va_P G vwCl [(b 4, .inl (cB, 900, .inl o_f4)), (b 14, .inl (cI, 149, .inl o_f14o104)), (h0, oX10 b o_thrown o_taped o_size o_ato98 o_fromo99 o_tokeno100 o_valueo101 o_faultKindo154 o_faultPlaceo155 o_lawNow o_walkSet o_oneWidow o_oneTurn o_askWorst o_mayWalk o_oftenAll o_oftenRoad o_oftenPegs)] H := hP
        have hD : va_D A [(b 4, .inl (cB, 900, .inl o_f4)), (b 14, .inl (cI, 149, .inl o_f14o104)), (h0, oX10 b o_thrown o_taped o_size o_ato98 o_fromo99 o_tokeno100 o_valueo101 o_faultKindo154 o_faultPlaceo155 o_lawNow o_walkSet o_oneWidow o_oneTurn o_askWorst o_mayWalk o_oftenAll o_oftenRoad o_oftenPegs)] := hD
        have w156 : ¬ o_faultKindo154.toInt = 0 := hw153
        refine lv_aload_n hx hb dX10_readLine_41 rfl (lv_at hl 0 rfl) ?_
        refine k_i (wc := [(h0, oX10 b o_thrown o_taped o_size o_ato98 o_fromo99 o_tokeno100 o_valueo101 o_faultKindo154 o_faultPlaceo155 o_lawNow o_walkSet o_oneWidow o_oneTurn o_askWorst o_mayWalk o_oftenAll o_oftenRoad o_oftenPegs)]) (wr := [(b 4, .inl (cB, 900, .inl o_f4)), (b 14, .inl (cI, 149, .inl o_f14o104))]) hP hD hS hA [2] [0, 1] rfl rfl rfl (by decide) (va_runV (As := []) (rest := []) ⟨hx, hb, hml, hown, hts⟩ (f_X10_good l G cI cJ cZ cB cQ _ h0 b o_thrown o_taped o_size o_ato98 o_fromo99 o_tokeno100 o_valueo101 o_faultKindo154 o_faultPlaceo155 o_lawNow o_walkSet o_oneWidow o_oneTurn o_askWorst o_mayWalk o_oftenAll o_oftenRoad o_oftenPegs hl_o_taped hh_o_taped hl_o_size hh_o_size w105 w106 w107 w108 hl_o_oneTurn hh_o_oneTurn) (cwV 0 hts (gV w_1373 w_1375 wp_85 w_11 w_1376) rfl rfl rfl ⟨rfl, hd_X10_good⟩ ⟨Nat.le_of_ble_eq_true rfl, Nat.le_of_ble_eq_true rfl⟩) (mV hK hZ hP hD [2] rfl rfl [] 2 10 rfl rfl) rfl rfl hl.1 rfl (lv_room (Nat.le_of_ble_eq_true rfl)) dX10_readLine_42 ⟨Nat.le_of_ble_eq_true rfl, Nat.le_of_ble_eq_true rfl⟩) (fun r157 u158 H locs hw159 hP hD hS => ?_)
        try dsimp only at hw159
        have hP : va_P G vwCl [(b 4, .inl (cB, 900, .inl o_f4)), (b 14, .inl (cI, 149, .inl o_f14o104)), (h0, oX10 b o_thrown o_taped o_size o_ato98 o_fromo99 o_tokeno100 o_valueo101 o_faultKindo154 o_faultPlaceo155 o_lawNow o_walkSet o_oneWidow o_oneTurn o_askWorst o_mayWalk o_oftenAll o_oftenRoad o_oftenPegs)] H := hP
        have hD : va_D A [(b 4, .inl (cB, 900, .inl o_f4)), (b 14, .inl (cI, 149, .inl o_f14o104)), (h0, oX10 b o_thrown o_taped o_size o_ato98 o_fromo99 o_tokeno100 o_valueo101 o_faultKindo154 o_faultPlaceo155 o_lawNow o_walkSet o_oneWidow o_oneTurn o_askWorst o_mayWalk o_oftenAll o_oftenRoad o_oftenPegs)] := hD
        rcases hw159 with ⟨rfl, a161⟩ | ⟨rfl, a162⟩
        · exact absurd a161 (by omega)
        · skip
          refine lv_if_eq (tgt := 52) hx hb dX10_readLine_45 (by decide) (fun c163 => ?_) (fun c163 => absurd (by decide) c163)
          refine lv_aload_n hx hb dX10_readLine_52 rfl (lv_at hl 0 rfl) ?_
          refine va_get (D := G) (ci := 10) (v := .ref (b 14)) (C := RX10) (T := TX10) (N := 46) hx hb hts iG_X10 hown hK hP 2 rfl rfl 14 (by decide) (hts _ w_1206) (fun _ h9 => h9) rfl dX10_readLine_53 ?_
          refine lv_bipush (v := 9) hx hb dX10_readLine_56 (by decide) ?_
          refine lv_dup2_11 hx hb dX10_readLine_58 rfl rfl ?_
          refine va_iald hx hb hK hP 1 0 rfl rfl (ix_in ki_9 (by omega) (by omega)) dX10_readLine_59 ?_
          refine lv_topi (fun v164 ev164 => ?_)
          have tv164 : v164.toInt = (o_f14o104 9).toInt := by rw [ev164]; rfl
          obtain ⟨ia165, ib166⟩ := WB_9 w109
          refine lv_iconst (v := 1) hx hb dX10_readLine_60 (by decide) ?_
          refine lv_iadd hx hb dX10_readLine_61 ?_
          refine lv_topi (fun v167 ev167 => ?_)
          have tv167 : v167.toInt = (o_f14o104 9).toInt + 1 := ti_add tv164 ki_1 ev167 (by omega) (by omega)
          refine va_iast hx hb hK hP hD hS 1 0 rfl rfl (ix_in ki_9 (by omega) (by omega)) dX10_readLine_62 (fun H locs hP hD hS => ?_)
          obtain ⟨f168, qf168⟩ : ∃ g, g = upd o_f14o104 (9 : Int32).toNatClampNeg v167 := ⟨_, rfl⟩
          rw [← qf168] at hP hD
          have hb168 : WB f168 := by rw [qf168]; exact WB_putc 9 901 w109 rfl rfl (by decide) tv167 (by omega) (by omega)
          have kf168_3 : (f168 3).toInt = (o_f14o104 3).toInt := by rw [qf168, pk_un (by decide)]
          have kf168_4 : (f168 4).toInt = (o_f14o104 4).toInt := by rw [qf168, pk_un (by decide)]
          have kf168_5 : (f168 5).toInt = (o_f14o104 5).toInt := by rw [qf168, pk_un (by decide)]
          have kf168_6 : (f168 6).toInt = (o_f14o104 6).toInt := by rw [qf168, pk_un (by decide)]
          have kf168_7 : (f168 7).toInt = (o_f14o104 7).toInt := by rw [qf168, pk_un (by decide)]
          have kf168_9 : (f168 9).toInt = (o_f14o104 9).toInt + 1 := by rw [qf168]; exact tv167
          have hg169 : o_faultKindo102.toInt = 0 → WG f168 := fun q9 => by rw [qf168]; exact WG_updx (hg114 q9) ki_9 (by omega) (by omega)
          have hP : va_P G vwCl [(b 4, .inl (cB, 900, .inl o_f4)), (b 14, .inl (cI, 149, .inl f168)), (h0, oX10 b o_thrown o_taped o_size o_ato98 o_fromo99 o_tokeno100 o_valueo101 o_faultKindo154 o_faultPlaceo155 o_lawNow o_walkSet o_oneWidow o_oneTurn o_askWorst o_mayWalk o_oftenAll o_oftenRoad o_oftenPegs)] H := hP
          have hD : va_D A [(b 4, .inl (cB, 900, .inl o_f4)), (b 14, .inl (cI, 149, .inl f168)), (h0, oX10 b o_thrown o_taped o_size o_ato98 o_fromo99 o_tokeno100 o_valueo101 o_faultKindo154 o_faultPlaceo155 o_lawNow o_walkSet o_oneWidow o_oneTurn o_askWorst o_mayWalk o_oftenAll o_oftenRoad o_oftenPegs)] := hD
          exact hret _ _ _ _ (o_ato98, o_fromo99, o_tokeno100, o_valueo101, o_faultKindo154, o_faultPlaceo155, f168) (hP.sub (ws' := [(h0, oX10 b o_thrown o_taped o_size o_ato98 o_fromo99 o_tokeno100 o_valueo101 o_faultKindo154 o_faultPlaceo155 o_lawNow o_walkSet o_oneWidow o_oneTurn o_askWorst o_mayWalk o_oftenAll o_oftenRoad o_oftenPegs), (b 4, .inl (cB, 900, .inl o_f4)), (b 14, .inl (cI, 149, .inl f168))]) [2, 0, 1] rfl) (hD.sub (ws' := [(h0, oX10 b o_thrown o_taped o_size o_ato98 o_fromo99 o_tokeno100 o_valueo101 o_faultKindo154 o_faultPlaceo155 o_lawNow o_walkSet o_oneWidow o_oneTurn o_askWorst o_mayWalk o_oftenAll o_oftenRoad o_oftenPegs), (b 4, .inl (cB, 900, .inl o_f4)), (b 14, .inl (cI, 149, .inl f168))]) [2, 0, 1] rfl rfl) hS dX10_readLine_63 (show 0 ≤ o_ato98.toInt ∧ o_ato98.toInt ≤ 900 ∧ 0 ≤ o_fromo99.toInt ∧ o_fromo99.toInt ≤ 900 ∧ WB f168 ∧ o_at.toInt ≤ o_ato98.toInt ∧ (o_faultKindo154.toInt = 0 → WG f168) ∧ (f168 9).toInt = (o_f14 9).toInt + 1 ∧ (¬ o_faultKindo154.toInt = 0 ∨ o_tokeno100.toInt = 0 ∨ o_at.toInt < o_ato98.toInt) from ⟨w105, w106, w107, w108, hb168, (by omega), (fun q9 => hg169 (by omega)), (by omega), (by omega)⟩)
    · skip
      refine lv_if_eq (tgt := 41) hx hb dX10_readLine_25 (by decide) (fun c171 => ?_) (fun c171 => absurd (by decide) c171)
      refine lv_aload_n hx hb dX10_readLine_41 rfl (lv_at hl 0 rfl) ?_
      refine k_i (wc := [(h0, oX10 b o_thrown o_taped o_size o_ato98 o_fromo99 o_tokeno100 o_valueo101 o_faultKindo102 o_faultPlaceo103 o_lawNow o_walkSet o_oneWidow o_oneTurn o_askWorst o_mayWalk o_oftenAll o_oftenRoad o_oftenPegs)]) (wr := [(b 4, .inl (cB, 900, .inl o_f4)), (b 14, .inl (cI, 149, .inl o_f14o104))]) hP hD hS hA [2] [0, 1] rfl rfl rfl (by decide) (va_runV (As := []) (rest := []) ⟨hx, hb, hml, hown, hts⟩ (f_X10_good l G cI cJ cZ cB cQ _ h0 b o_thrown o_taped o_size o_ato98 o_fromo99 o_tokeno100 o_valueo101 o_faultKindo102 o_faultPlaceo103 o_lawNow o_walkSet o_oneWidow o_oneTurn o_askWorst o_mayWalk o_oftenAll o_oftenRoad o_oftenPegs hl_o_taped hh_o_taped hl_o_size hh_o_size w105 w106 w107 w108 hl_o_oneTurn hh_o_oneTurn) (cwV 0 hts (gV w_1373 w_1375 wp_85 w_11 w_1376) rfl rfl rfl ⟨rfl, hd_X10_good⟩ ⟨Nat.le_of_ble_eq_true rfl, Nat.le_of_ble_eq_true rfl⟩) (mV hK hZ hP hD [2] rfl rfl [] 2 10 rfl rfl) rfl rfl hl.1 rfl (lv_room (Nat.le_of_ble_eq_true rfl)) dX10_readLine_42 ⟨Nat.le_of_ble_eq_true rfl, Nat.le_of_ble_eq_true rfl⟩) (fun r172 u173 H locs hw174 hP hD hS => ?_)
      try dsimp only at hw174
      have hP : va_P G vwCl [(b 4, .inl (cB, 900, .inl o_f4)), (b 14, .inl (cI, 149, .inl o_f14o104)), (h0, oX10 b o_thrown o_taped o_size o_ato98 o_fromo99 o_tokeno100 o_valueo101 o_faultKindo102 o_faultPlaceo103 o_lawNow o_walkSet o_oneWidow o_oneTurn o_askWorst o_mayWalk o_oftenAll o_oftenRoad o_oftenPegs)] H := hP
      have hD : va_D A [(b 4, .inl (cB, 900, .inl o_f4)), (b 14, .inl (cI, 149, .inl o_f14o104)), (h0, oX10 b o_thrown o_taped o_size o_ato98 o_fromo99 o_tokeno100 o_valueo101 o_faultKindo102 o_faultPlaceo103 o_lawNow o_walkSet o_oneWidow o_oneTurn o_askWorst o_mayWalk o_oftenAll o_oftenRoad o_oftenPegs)] := hD
      rcases hw174 with ⟨rfl, a176⟩ | ⟨rfl, a177⟩
      · exact absurd a176 (by omega)
      · skip
        refine lv_if_eq (tgt := 52) hx hb dX10_readLine_45 (by decide) (fun c178 => ?_) (fun c178 => absurd (by decide) c178)
        refine lv_aload_n hx hb dX10_readLine_52 rfl (lv_at hl 0 rfl) ?_
        refine va_get (D := G) (ci := 10) (v := .ref (b 14)) (C := RX10) (T := TX10) (N := 46) hx hb hts iG_X10 hown hK hP 2 rfl rfl 14 (by decide) (hts _ w_1206) (fun _ h9 => h9) rfl dX10_readLine_53 ?_
        refine lv_bipush (v := 9) hx hb dX10_readLine_56 (by decide) ?_
        refine lv_dup2_11 hx hb dX10_readLine_58 rfl rfl ?_
        refine va_iald hx hb hK hP 1 0 rfl rfl (ix_in ki_9 (by omega) (by omega)) dX10_readLine_59 ?_
        refine lv_topi (fun v179 ev179 => ?_)
        have tv179 : v179.toInt = (o_f14o104 9).toInt := by rw [ev179]; rfl
        obtain ⟨ia180, ib181⟩ := WB_9 w109
        refine lv_iconst (v := 1) hx hb dX10_readLine_60 (by decide) ?_
        refine lv_iadd hx hb dX10_readLine_61 ?_
        refine lv_topi (fun v182 ev182 => ?_)
        have tv182 : v182.toInt = (o_f14o104 9).toInt + 1 := ti_add tv179 ki_1 ev182 (by omega) (by omega)
        refine va_iast hx hb hK hP hD hS 1 0 rfl rfl (ix_in ki_9 (by omega) (by omega)) dX10_readLine_62 (fun H locs hP hD hS => ?_)
        obtain ⟨f183, qf183⟩ : ∃ g, g = upd o_f14o104 (9 : Int32).toNatClampNeg v182 := ⟨_, rfl⟩
        rw [← qf183] at hP hD
        have hb183 : WB f183 := by rw [qf183]; exact WB_putc 9 901 w109 rfl rfl (by decide) tv182 (by omega) (by omega)
        have kf183_3 : (f183 3).toInt = (o_f14o104 3).toInt := by rw [qf183, pk_un (by decide)]
        have kf183_4 : (f183 4).toInt = (o_f14o104 4).toInt := by rw [qf183, pk_un (by decide)]
        have kf183_5 : (f183 5).toInt = (o_f14o104 5).toInt := by rw [qf183, pk_un (by decide)]
        have kf183_6 : (f183 6).toInt = (o_f14o104 6).toInt := by rw [qf183, pk_un (by decide)]
        have kf183_7 : (f183 7).toInt = (o_f14o104 7).toInt := by rw [qf183, pk_un (by decide)]
        have kf183_9 : (f183 9).toInt = (o_f14o104 9).toInt + 1 := by rw [qf183]; exact tv182
        have hg184 : o_faultKindo102.toInt = 0 → WG f183 := fun q9 => by rw [qf183]; exact WG_updx (hg114 q9) ki_9 (by omega) (by omega)
        have hP : va_P G vwCl [(b 4, .inl (cB, 900, .inl o_f4)), (b 14, .inl (cI, 149, .inl f183)), (h0, oX10 b o_thrown o_taped o_size o_ato98 o_fromo99 o_tokeno100 o_valueo101 o_faultKindo102 o_faultPlaceo103 o_lawNow o_walkSet o_oneWidow o_oneTurn o_askWorst o_mayWalk o_oftenAll o_oftenRoad o_oftenPegs)] H := hP
        have hD : va_D A [(b 4, .inl (cB, 900, .inl o_f4)), (b 14, .inl (cI, 149, .inl f183)), (h0, oX10 b o_thrown o_taped o_size o_ato98 o_fromo99 o_tokeno100 o_valueo101 o_faultKindo102 o_faultPlaceo103 o_lawNow o_walkSet o_oneWidow o_oneTurn o_askWorst o_mayWalk o_oftenAll o_oftenRoad o_oftenPegs)] := hD
        exact hret _ _ _ _ (o_ato98, o_fromo99, o_tokeno100, o_valueo101, o_faultKindo102, o_faultPlaceo103, f183) (hP.sub (ws' := [(h0, oX10 b o_thrown o_taped o_size o_ato98 o_fromo99 o_tokeno100 o_valueo101 o_faultKindo102 o_faultPlaceo103 o_lawNow o_walkSet o_oneWidow o_oneTurn o_askWorst o_mayWalk o_oftenAll o_oftenRoad o_oftenPegs), (b 4, .inl (cB, 900, .inl o_f4)), (b 14, .inl (cI, 149, .inl f183))]) [2, 0, 1] rfl) (hD.sub (ws' := [(h0, oX10 b o_thrown o_taped o_size o_ato98 o_fromo99 o_tokeno100 o_valueo101 o_faultKindo102 o_faultPlaceo103 o_lawNow o_walkSet o_oneWidow o_oneTurn o_askWorst o_mayWalk o_oftenAll o_oftenRoad o_oftenPegs), (b 4, .inl (cB, 900, .inl o_f4)), (b 14, .inl (cI, 149, .inl f183))]) [2, 0, 1] rfl rfl) hS dX10_readLine_63 (show 0 ≤ o_ato98.toInt ∧ o_ato98.toInt ≤ 900 ∧ 0 ≤ o_fromo99.toInt ∧ o_fromo99.toInt ≤ 900 ∧ WB f183 ∧ o_at.toInt ≤ o_ato98.toInt ∧ (o_faultKindo102.toInt = 0 → WG f183) ∧ (f183 9).toInt = (o_f14 9).toInt + 1 ∧ (¬ o_faultKindo102.toInt = 0 ∨ o_tokeno100.toInt = 0 ∨ o_at.toInt < o_ato98.toInt) from ⟨w105, w106, w107, w108, hb183, (by omega), (fun q9 => hg184 (by omega)), (by omega), (by omega)⟩)
set_option maxHeartbeats 4000000 in
set_option maxRecDepth 100000 in
theorem f_X10_colony (l : Launch) (G : va_G) (cI cJ cZ cB cQ : ClassId) (sz : Nat) (ad : AdS) (fm : Option Nat) (h0 : Nat) (b : Nat → Nat) (o_thrown : Int32) (o_taped : Int32) (o_size : Int32) (o_at : Int32) (o_from : Int32) (o_token : Int32) (o_value : Int32) (o_faultKind : Int32) (o_faultPlace : Int32) (o_lawNow : Int32) (o_walkSet : Int32) (o_oneWidow : Int32) (o_oneTurn : Int32) (o_askWorst : Int32) (o_mayWalk : Int32) (o_oftenAll : Int64) (o_oftenRoad : Int64) (o_oftenPegs : Int64) (o_f1 : Nat → Int32) (o_f4 : Nat → Int32) (o_f14 : Nat → Int32) (hl_o_taped : 0 ≤ o_taped.toInt) (hh_o_taped : o_taped.toInt ≤ 900) (hl_o_size : 0 ≤ o_size.toInt) (hh_o_size : o_size.toInt ≤ 900) (hl_o_at : 0 ≤ o_at.toInt) (hh_o_at : o_at.toInt ≤ 900) (hl_o_from : 0 ≤ o_from.toInt) (hh_o_from : o_from.toInt ≤ 900) (hl_o_oneTurn : 0 ≤ o_oneTurn.toInt) (hh_o_oneTurn : o_oneTurn.toInt ≤ 4) (ha_o_f1 : WI o_f1) (ha_o_f14 : WB o_f14) : CIs l yX10_colony (wl_ yX10_colony cX10_colony 2 (some .int)) ({ frames := 11, cells := 0, slots := 0, locals := 237 } : Room) G (TY cI cJ cZ cB cQ) [.ref h0] [(h0, oX10 b o_thrown o_taped o_size o_at o_from o_token o_value o_faultKind o_faultPlace o_lawNow o_walkSet o_oneWidow o_oneTurn o_askWorst o_mayWalk o_oftenAll o_oftenRoad o_oftenPegs), (b 1, .inl (cI, 149, .inl o_f1)), (b 4, .inl (cB, 900, .inl o_f4)), (b 14, .inl (cI, 149, .inl o_f14))] sz ad fm (fun (r : Int32) (u : Int32 × Int32 × Int32 × Int32 × Int32 × Int32 × Int32 × Int32 × (Nat → Int32) × (Nat → Int32)) => 0 ≤ u.1.toInt ∧ u.1.toInt ≤ 900 ∧ 0 ≤ u.2.1.toInt ∧ u.2.1.toInt ≤ 900 ∧ 0 ≤ u.2.2.1.toInt ∧ u.2.2.1.toInt ≤ 900 ∧ 0 ≤ u.2.2.2.1.toInt ∧ u.2.2.2.1.toInt ≤ 900 ∧ WI u.2.2.2.2.2.2.2.2.1 ∧ WB u.2.2.2.2.2.2.2.2.2) (fun u : Int32 × Int32 × Int32 × Int32 × Int32 × Int32 × Int32 × Int32 × (Nat → Int32) × (Nat → Int32) => [(h0, oX10 b o_thrown u.1 u.2.1 u.2.2.1 u.2.2.2.1 u.2.2.2.2.1 u.2.2.2.2.2.1 u.2.2.2.2.2.2.1 u.2.2.2.2.2.2.2.1 o_lawNow o_walkSet o_oneWidow o_oneTurn o_askWorst o_mayWalk o_oftenAll o_oftenRoad o_oftenPegs), (b 1, .inl (cI, 149, .inl u.2.2.2.2.2.2.2.2.1)), (b 4, .inl (cB, 900, .inl o_f4)), (b 14, .inl (cI, 149, .inl u.2.2.2.2.2.2.2.2.2))]) 0 0 := by
  refine CIs.go (cc := cX10_colony) (maxL := 2) (ret := (some .int)) (by decide) rfl (Nat.le_of_ble_eq_true rfl) ?_
  intro p e s m below meth c A ls Q hBd hE hret
  obtain ⟨hx, hb, hr, hml, hts, hown, hlk, hnm, hP, hK, hD, hA, hZ, hl⟩ := hBd
  have hown : s.vm.findClass RX10 = some m.cls := hown
  have hl : lv_has ls 2 [(0, .ref h0)] := hl
  have hS : va_S A s.heap s.heap [] := va_S.rf
  refine lv_aload_n hx hb dX10_colony_0 rfl (lv_at hl 0 rfl) ?_
  refine lv_aload_n hx hb dX10_colony_1 rfl (lv_at hl 0 rfl) ?_
  refine va_get (D := G) (ci := 10) (v := .int o_taped) (C := RX10) (T := TX10) (N := 46) hx hb hts iG_X10 hown hK hP 0 rfl rfl 5 (by decide) (hts _ w_1197) (fun _ h9 => h9) rfl dX10_colony_2 ?_
  refine va_put (D := G) (ci := 10) (v := .int o_taped) (ty := .int) (C := RX10) (T := TX10) (N := 46) hx hb hts iG_X10 tyX10 tyX10_ok nmX10 hown hK hP hD hS 0 rfl rfl 7 (by decide) (hts _ w_1199) (fun _ h9 => h9) rfl (by decide +kernel) rfl rfl (Nat.le_of_ble_eq_true rfl) dX10_colony_5 (fun H locs hP hD hS => ?_)
  have hP : va_P G vwCl [(h0, oX10 b o_thrown o_taped o_taped o_at o_from o_token o_value o_faultKind o_faultPlace o_lawNow o_walkSet o_oneWidow o_oneTurn o_askWorst o_mayWalk o_oftenAll o_oftenRoad o_oftenPegs), (b 1, .inl (cI, 149, .inl o_f1)), (b 4, .inl (cB, 900, .inl o_f4)), (b 14, .inl (cI, 149, .inl o_f14))] H := hP
  have hD : va_D A [(h0, oX10 b o_thrown o_taped o_taped o_at o_from o_token o_value o_faultKind o_faultPlace o_lawNow o_walkSet o_oneWidow o_oneTurn o_askWorst o_mayWalk o_oftenAll o_oftenRoad o_oftenPegs), (b 1, .inl (cI, 149, .inl o_f1)), (b 4, .inl (cB, 900, .inl o_f4)), (b 14, .inl (cI, 149, .inl o_f14))] := hD
  refine lv_aload_n hx hb dX10_colony_8 rfl (lv_at hl 0 rfl) ?_
  refine lv_iconst (v := 0) hx hb dX10_colony_9 (by decide) ?_
  refine va_put (D := G) (ci := 10) (v := .int 0) (ty := .int) (C := RX10) (T := TX10) (N := 46) hx hb hts iG_X10 tyX10 tyX10_ok nmX10 hown hK hP hD hS 0 rfl rfl 5 (by decide) (hts _ w_1197) (fun _ h9 => h9) rfl (by decide +kernel) rfl rfl (Nat.le_of_ble_eq_true rfl) dX10_colony_10 (fun H locs hP hD hS => ?_)
  have hP : va_P G vwCl [(h0, oX10 b o_thrown 0 o_taped o_at o_from o_token o_value o_faultKind o_faultPlace o_lawNow o_walkSet o_oneWidow o_oneTurn o_askWorst o_mayWalk o_oftenAll o_oftenRoad o_oftenPegs), (b 1, .inl (cI, 149, .inl o_f1)), (b 4, .inl (cB, 900, .inl o_f4)), (b 14, .inl (cI, 149, .inl o_f14))] H := hP
  have hD : va_D A [(h0, oX10 b o_thrown 0 o_taped o_at o_from o_token o_value o_faultKind o_faultPlace o_lawNow o_walkSet o_oneWidow o_oneTurn o_askWorst o_mayWalk o_oftenAll o_oftenRoad o_oftenPegs), (b 1, .inl (cI, 149, .inl o_f1)), (b 4, .inl (cB, 900, .inl o_f4)), (b 14, .inl (cI, 149, .inl o_f14))] := hD
  refine lv_aload_n hx hb dX10_colony_13 rfl (lv_at hl 0 rfl) ?_
  refine lv_iconst (v := 0) hx hb dX10_colony_14 (by decide) ?_
  refine va_put (D := G) (ci := 10) (v := .int 0) (ty := .int) (C := RX10) (T := TX10) (N := 46) hx hb hts iG_X10 tyX10 tyX10_ok nmX10 hown hK hP hD hS 0 rfl rfl 8 (by decide) (hts _ w_1200) (fun _ h9 => h9) rfl (by decide +kernel) rfl rfl (Nat.le_of_ble_eq_true rfl) dX10_colony_15 (fun H locs hP hD hS => ?_)
  have hP : va_P G vwCl [(h0, oX10 b o_thrown 0 o_taped 0 o_from o_token o_value o_faultKind o_faultPlace o_lawNow o_walkSet o_oneWidow o_oneTurn o_askWorst o_mayWalk o_oftenAll o_oftenRoad o_oftenPegs), (b 1, .inl (cI, 149, .inl o_f1)), (b 4, .inl (cB, 900, .inl o_f4)), (b 14, .inl (cI, 149, .inl o_f14))] H := hP
  have hD : va_D A [(h0, oX10 b o_thrown 0 o_taped 0 o_from o_token o_value o_faultKind o_faultPlace o_lawNow o_walkSet o_oneWidow o_oneTurn o_askWorst o_mayWalk o_oftenAll o_oftenRoad o_oftenPegs), (b 1, .inl (cI, 149, .inl o_f1)), (b 4, .inl (cB, 900, .inl o_f4)), (b 14, .inl (cI, 149, .inl o_f14))] := hD
  refine lv_aload_n hx hb dX10_colony_18 rfl (lv_at hl 0 rfl) ?_
  refine lv_iconst (v := 0) hx hb dX10_colony_19 (by decide) ?_
  refine va_put (D := G) (ci := 10) (v := .int 0) (ty := .int) (C := RX10) (T := TX10) (N := 46) hx hb hts iG_X10 tyX10 tyX10_ok nmX10 hown hK hP hD hS 0 rfl rfl 12 (by decide) (hts _ w_1204) (fun _ h9 => h9) rfl (by decide +kernel) rfl rfl (Nat.le_of_ble_eq_true rfl) dX10_colony_20 (fun H locs hP hD hS => ?_)
  have hP : va_P G vwCl [(h0, oX10 b o_thrown 0 o_taped 0 o_from o_token o_value 0 o_faultPlace o_lawNow o_walkSet o_oneWidow o_oneTurn o_askWorst o_mayWalk o_oftenAll o_oftenRoad o_oftenPegs), (b 1, .inl (cI, 149, .inl o_f1)), (b 4, .inl (cB, 900, .inl o_f4)), (b 14, .inl (cI, 149, .inl o_f14))] H := hP
  have hD : va_D A [(h0, oX10 b o_thrown 0 o_taped 0 o_from o_token o_value 0 o_faultPlace o_lawNow o_walkSet o_oneWidow o_oneTurn o_askWorst o_mayWalk o_oftenAll o_oftenRoad o_oftenPegs), (b 1, .inl (cI, 149, .inl o_f1)), (b 4, .inl (cB, 900, .inl o_f4)), (b 14, .inl (cI, 149, .inl o_f14))] := hD
  refine lv_aload_n hx hb dX10_colony_23 rfl (lv_at hl 0 rfl) ?_
  refine lv_iconst (v := (-1)) hx hb dX10_colony_24 (by decide) ?_
  refine va_put (D := G) (ci := 10) (v := .int (-1)) (ty := .int) (C := RX10) (T := TX10) (N := 46) hx hb hts iG_X10 tyX10 tyX10_ok nmX10 hown hK hP hD hS 0 rfl rfl 13 (by decide) (hts _ w_1205) (fun _ h9 => h9) rfl (by decide +kernel) rfl rfl (Nat.le_of_ble_eq_true rfl) dX10_colony_25 (fun H locs hP hD hS => ?_)
  have hP : va_P G vwCl [(h0, oX10 b o_thrown 0 o_taped 0 o_from o_token o_value 0 (-1) o_lawNow o_walkSet o_oneWidow o_oneTurn o_askWorst o_mayWalk o_oftenAll o_oftenRoad o_oftenPegs), (b 1, .inl (cI, 149, .inl o_f1)), (b 4, .inl (cB, 900, .inl o_f4)), (b 14, .inl (cI, 149, .inl o_f14))] H := hP
  have hD : va_D A [(h0, oX10 b o_thrown 0 o_taped 0 o_from o_token o_value 0 (-1) o_lawNow o_walkSet o_oneWidow o_oneTurn o_askWorst o_mayWalk o_oftenAll o_oftenRoad o_oftenPegs), (b 1, .inl (cI, 149, .inl o_f1)), (b 4, .inl (cB, 900, .inl o_f4)), (b 14, .inl (cI, 149, .inl o_f14))] := hD
  refine lv_iconst (v := 0) hx hb dX10_colony_28 (by decide) ?_
  refine lv_istore_n (lv' := [(1, .int 0), (0, .ref h0)]) hx hb dX10_colony_29 rfl hl (by decide) rfl (fun ls hl => ?_)
  have lp1 : ∀ (n2 : Nat) (x3 : Int32) (g4 : Nat → Int32), 0 ≤ x3.toInt → x3.toInt ≤ 149 → WB g4 → (((7 : Nat) : Int) < x3.toInt → (g4 7).toInt = 0) → (((9 : Nat) : Int) < x3.toInt → (g4 9).toInt = 0) → 149 - x3.toInt < (n2 : Int) → ∀ (H : Heap) (locs : List Loc), va_P G vwCl [(h0, oX10 b o_thrown 0 o_taped 0 o_from o_token o_value 0 (-1) o_lawNow o_walkSet o_oneWidow o_oneTurn o_askWorst o_mayWalk o_oftenAll o_oftenRoad o_oftenPegs), (b 1, .inl (cI, 149, .inl o_f1)), (b 4, .inl (cB, 900, .inl o_f4)), (b 14, .inl (cI, 149, .inl g4))] H → va_D A [(h0, oX10 b o_thrown 0 o_taped 0 o_from o_token o_value 0 (-1) o_lawNow o_walkSet o_oneWidow o_oneTurn o_askWorst o_mayWalk o_oftenAll o_oftenRoad o_oftenPegs), (b 1, .inl (cI, 149, .inl o_f1)), (b 4, .inl (cB, 900, .inl o_f4)), (b 14, .inl (cI, 149, .inl g4))] → va_S A s.heap H locs → ∀ (ls : Array Slot), lv_has ls 2 [(1, .int x3), (0, .ref h0)] → W p l e ({ frames := 11, cells := 0, slots := 0, locals := 237 } : Room) s m ([.ref h0] : List Value).toArray below meth c H locs 0 0 Q (F0 m 30 ls []) := by
    intro n2
    induction n2 with
    | zero =>
      intro x3 g4 k5 k6 k7 zz7 zy7 mm9
      exact absurd mm9 (by have q9 := fb_rng x3; omega)
    | succ n2 ih8 =>
      intro x3 g4 k5 k6 k7 zz7 zy7 mm9 H locs hP hD hS ls hl
      refine lv_iload_n hx hb dX10_colony_30 rfl (lv_at hl 0 rfl) ?_
      refine lv_sipush (v := 149) hx hb dX10_colony_31 (by decide) ?_
      refine lv_icmp_ge (tgt := 50) hx hb dX10_colony_34 (by decide) (fun c10 => ?_) (fun c10 => ?_)
      · have c10 := i_le ki_149 rfl c10
        refine lv_aload_n hx hb dX10_colony_50 rfl (lv_at hl 1 rfl) ?_
        refine k_v (wc := [(h0, oX10 b o_thrown 0 o_taped 0 o_from o_token o_value 0 (-1) o_lawNow o_walkSet o_oneWidow o_oneTurn o_askWorst o_mayWalk o_oftenAll o_oftenRoad o_oftenPegs), (b 4, .inl (cB, 900, .inl o_f4))]) (wr := [(b 1, .inl (cI, 149, .inl o_f1)), (b 14, .inl (cI, 149, .inl g4))]) hP hD hS hA [0, 2] [1, 3] rfl rfl rfl (by decide) (va_runV (As := []) (rest := []) ⟨hx, hb, hml, hown, hts⟩ (f_X10_advance l G cI cJ cZ cB cQ _ h0 b o_thrown 0 o_taped 0 o_from o_token o_value 0 (-1) o_lawNow o_walkSet o_oneWidow o_oneTurn o_askWorst o_mayWalk o_oftenAll o_oftenRoad o_oftenPegs o_f4 (by rw [ki_0]; decide) (by rw [ki_0]; decide) hl_o_taped hh_o_taped (by rw [ki_0]; decide) (by rw [ki_0]; decide) hl_o_from hh_o_from hl_o_oneTurn hh_o_oneTurn) (cwV 0 hts (gV w_1359 w_1361 wp_83 w_11 w_1362) rfl rfl rfl ⟨rfl, hd_X10_advance⟩ ⟨Nat.le_of_ble_eq_true rfl, Nat.le_of_ble_eq_true rfl⟩) (mV hK hZ hP hD [0, 2] rfl rfl [] 0 10 rfl rfl) rfl rfl hl.1 rfl (lv_room (Nat.le_of_ble_eq_true rfl)) dX10_colony_51 ⟨Nat.le_of_ble_eq_true rfl, Nat.le_of_ble_eq_true rfl⟩) (fun u12 H locs hw13 hP hD hS => ?_)
        obtain ⟨o_ato14, o_fromo15, o_tokeno16, o_valueo17⟩ := u12
        try dsimp only at hw13
        have hP : va_P G vwCl [(b 1, .inl (cI, 149, .inl o_f1)), (b 14, .inl (cI, 149, .inl g4)), (h0, oX10 b o_thrown 0 o_taped o_ato14 o_fromo15 o_tokeno16 o_valueo17 0 (-1) o_lawNow o_walkSet o_oneWidow o_oneTurn o_askWorst o_mayWalk o_oftenAll o_oftenRoad o_oftenPegs), (b 4, .inl (cB, 900, .inl o_f4))] H := hP
        have hD : va_D A [(b 1, .inl (cI, 149, .inl o_f1)), (b 14, .inl (cI, 149, .inl g4)), (h0, oX10 b o_thrown 0 o_taped o_ato14 o_fromo15 o_tokeno16 o_valueo17 0 (-1) o_lawNow o_walkSet o_oneWidow o_oneTurn o_askWorst o_mayWalk o_oftenAll o_oftenRoad o_oftenPegs), (b 4, .inl (cB, 900, .inl o_f4))] := hD
        obtain ⟨w18, w19, w20, w21, w22, w23, w24⟩ : 0 ≤ o_ato14.toInt ∧ o_ato14.toInt ≤ 900 ∧ 0 ≤ o_fromo15.toInt ∧ o_fromo15.toInt ≤ 900 ∧ 0 ≤ o_fromo15.toInt ∧ o_fromo15.toInt ≤ o_ato14.toInt ∧ (o_tokeno16.toInt = 0 ∨ o_fromo15.toInt < o_ato14.toInt) := hw13
        have lp25 : ∀ (n26 : Nat) (z27 : Int32) (z28 : Int32) (z29 : Int32) (z30 : Int32) (z31 : Int32) (z32 : Int32) (g33 : Nat → Int32), 0 ≤ z31.toInt → z31.toInt ≤ 900 → 0 ≤ z32.toInt → z32.toInt ≤ 900 → WB g33 → (z29.toInt = 0 → WG g33) → ((g33 9).toInt = 0 → (g33 7).toInt = 0) → (¬ z29.toInt = 0 ∨ z27.toInt = 0 ∨ (g33 9).toInt ≤ z31.toInt) → mc z29 z27 z31.toInt < (n26 : Int) → ∀ (H : Heap) (locs : List Loc), va_P G vwCl [(b 1, .inl (cI, 149, .inl o_f1)), (b 14, .inl (cI, 149, .inl g33)), (h0, oX10 b o_thrown 0 o_taped z31 z32 z27 z28 z29 z30 o_lawNow o_walkSet o_oneWidow o_oneTurn o_askWorst o_mayWalk o_oftenAll o_oftenRoad o_oftenPegs), (b 4, .inl (cB, 900, .inl o_f4))] H → va_D A [(b 1, .inl (cI, 149, .inl o_f1)), (b 14, .inl (cI, 149, .inl g33)), (h0, oX10 b o_thrown 0 o_taped z31 z32 z27 z28 z29 z30 o_lawNow o_walkSet o_oneWidow o_oneTurn o_askWorst o_mayWalk o_oftenAll o_oftenRoad o_oftenPegs), (b 4, .inl (cB, 900, .inl o_f4))] → va_S A s.heap H locs → ∀ (ls : Array Slot), lv_has ls 2 [(1, .int x3), (0, .ref h0)] → W p l e ({ frames := 11, cells := 0, slots := 0, locals := 237 } : Room) s m ([.ref h0] : List Value).toArray below meth c H locs 0 0 Q (F0 m 54 ls []) := by
          intro n26
          induction n26 with
          | zero =>
            intro z27 z28 z29 z30 z31 z32 g33 k34 k35 k36 k37 k38 cg38 ch38 ci38 mm40
            exact absurd mm40 (by have q9 := mc_nn z29 z27 z31.toInt; omega)
          | succ n26 ih39 =>
            intro z27 z28 z29 z30 z31 z32 g33 k34 k35 k36 k37 k38 cg38 ch38 ci38 mm40 H locs hP hD hS ls hl
            refine lv_aload_n hx hb dX10_colony_54 rfl (lv_at hl 1 rfl) ?_
            refine k_i (wc := [(h0, oX10 b o_thrown 0 o_taped z31 z32 z27 z28 z29 z30 o_lawNow o_walkSet o_oneWidow o_oneTurn o_askWorst o_mayWalk o_oftenAll o_oftenRoad o_oftenPegs)]) (wr := [(b 1, .inl (cI, 149, .inl o_f1)), (b 14, .inl (cI, 149, .inl g33)), (b 4, .inl (cB, 900, .inl o_f4))]) hP hD hS hA [2] [0, 1, 3] rfl rfl rfl (by decide) (va_runV (As := []) (rest := []) ⟨hx, hb, hml, hown, hts⟩ (f_X10_good l G cI cJ cZ cB cQ _ h0 b o_thrown 0 o_taped z31 z32 z27 z28 z29 z30 o_lawNow o_walkSet o_oneWidow o_oneTurn o_askWorst o_mayWalk o_oftenAll o_oftenRoad o_oftenPegs (by rw [ki_0]; decide) (by rw [ki_0]; decide) hl_o_taped hh_o_taped k34 k35 k36 k37 hl_o_oneTurn hh_o_oneTurn) (cwV 0 hts (gV w_1373 w_1375 wp_85 w_11 w_1376) rfl rfl rfl ⟨rfl, hd_X10_good⟩ ⟨Nat.le_of_ble_eq_true rfl, Nat.le_of_ble_eq_true rfl⟩) (mV hK hZ hP hD [2] rfl rfl [] 2 10 rfl rfl) rfl rfl hl.1 rfl (lv_room (Nat.le_of_ble_eq_true rfl)) dX10_colony_55 ⟨Nat.le_of_ble_eq_true rfl, Nat.le_of_ble_eq_true rfl⟩) (fun r41 u42 H locs hw43 hP hD hS => ?_)
            try dsimp only at hw43
            have hP : va_P G vwCl [(b 1, .inl (cI, 149, .inl o_f1)), (b 14, .inl (cI, 149, .inl g33)), (b 4, .inl (cB, 900, .inl o_f4)), (h0, oX10 b o_thrown 0 o_taped z31 z32 z27 z28 z29 z30 o_lawNow o_walkSet o_oneWidow o_oneTurn o_askWorst o_mayWalk o_oftenAll o_oftenRoad o_oftenPegs)] H := hP
            have hD : va_D A [(b 1, .inl (cI, 149, .inl o_f1)), (b 14, .inl (cI, 149, .inl g33)), (b 4, .inl (cB, 900, .inl o_f4)), (h0, oX10 b o_thrown 0 o_taped z31 z32 z27 z28 z29 z30 o_lawNow o_walkSet o_oneWidow o_oneTurn o_askWorst o_mayWalk o_oftenAll o_oftenRoad o_oftenPegs)] := hD
            rcases hw43 with ⟨rfl, a45⟩ | ⟨rfl, a46⟩
            · skip
              refine lv_if_eq (tgt := 75) hx hb dX10_colony_58 (by decide) (fun c47 => absurd c47 (by decide)) (fun c47 => ?_)
              refine lv_aload_n hx hb dX10_colony_61 rfl (lv_at hl 1 rfl) ?_
              refine va_get (D := G) (ci := 10) (v := .int z27) (C := RX10) (T := TX10) (N := 46) hx hb hts iG_X10 hown hK hP 3 rfl rfl 10 (by decide) (hts _ w_1202) (fun _ h9 => h9) rfl dX10_colony_62 ?_
              refine lv_if_eq (tgt := 75) hx hb dX10_colony_65 (by decide) (fun c48 => ?_) (fun c48 => ?_)
              · have c48 := i_eq rfl ki_0 c48
                refine lv_aload_n hx hb dX10_colony_75 rfl (lv_at hl 1 rfl) ?_
                refine k_i (wc := [(h0, oX10 b o_thrown 0 o_taped z31 z32 z27 z28 z29 z30 o_lawNow o_walkSet o_oneWidow o_oneTurn o_askWorst o_mayWalk o_oftenAll o_oftenRoad o_oftenPegs)]) (wr := [(b 1, .inl (cI, 149, .inl o_f1)), (b 14, .inl (cI, 149, .inl g33)), (b 4, .inl (cB, 900, .inl o_f4))]) hP hD hS hA [3] [0, 1, 2] rfl rfl rfl (by decide) (va_runV (As := []) (rest := []) ⟨hx, hb, hml, hown, hts⟩ (f_X10_good l G cI cJ cZ cB cQ _ h0 b o_thrown 0 o_taped z31 z32 z27 z28 z29 z30 o_lawNow o_walkSet o_oneWidow o_oneTurn o_askWorst o_mayWalk o_oftenAll o_oftenRoad o_oftenPegs (by rw [ki_0]; decide) (by rw [ki_0]; decide) hl_o_taped hh_o_taped k34 k35 k36 k37 hl_o_oneTurn hh_o_oneTurn) (cwV 0 hts (gV w_1373 w_1375 wp_85 w_11 w_1376) rfl rfl rfl ⟨rfl, hd_X10_good⟩ ⟨Nat.le_of_ble_eq_true rfl, Nat.le_of_ble_eq_true rfl⟩) (mV hK hZ hP hD [3] rfl rfl [] 3 10 rfl rfl) rfl rfl hl.1 rfl (lv_room (Nat.le_of_ble_eq_true rfl)) dX10_colony_76 ⟨Nat.le_of_ble_eq_true rfl, Nat.le_of_ble_eq_true rfl⟩) (fun r49 u50 H locs hw51 hP hD hS => ?_)
                try dsimp only at hw51
                have hP : va_P G vwCl [(b 1, .inl (cI, 149, .inl o_f1)), (b 14, .inl (cI, 149, .inl g33)), (b 4, .inl (cB, 900, .inl o_f4)), (h0, oX10 b o_thrown 0 o_taped z31 z32 z27 z28 z29 z30 o_lawNow o_walkSet o_oneWidow o_oneTurn o_askWorst o_mayWalk o_oftenAll o_oftenRoad o_oftenPegs)] H := hP
                have hD : va_D A [(b 1, .inl (cI, 149, .inl o_f1)), (b 14, .inl (cI, 149, .inl g33)), (b 4, .inl (cB, 900, .inl o_f4)), (h0, oX10 b o_thrown 0 o_taped z31 z32 z27 z28 z29 z30 o_lawNow o_walkSet o_oneWidow o_oneTurn o_askWorst o_mayWalk o_oftenAll o_oftenRoad o_oftenPegs)] := hD
                rcases hw51 with ⟨rfl, a53⟩ | ⟨rfl, a54⟩
                · skip
                  refine lv_if_ne (tgt := 85) hx hb dX10_colony_79 (by decide) (fun c55 => ?_) (fun c55 => absurd c55 (by decide))
                  refine lv_iconst (v := 0) hx hb dX10_colony_85 (by decide) ?_
                  refine lv_istore_n (lv' := [(1, .int 0), (0, .ref h0)]) hx hb dX10_colony_86 rfl hl (by decide) rfl (fun ls hl => ?_)
                  have lp56 : ∀ (n57 : Nat) (x58 : Int32) (g59 : Nat → Int32), 0 ≤ x58.toInt → x58.toInt ≤ 149 → CB g59 g33 0 x58.toInt → 149 - x58.toInt < (n57 : Int) → ∀ (H : Heap) (locs : List Loc), va_P G vwCl [(b 1, .inl (cI, 149, .inl g59)), (b 14, .inl (cI, 149, .inl g33)), (b 4, .inl (cB, 900, .inl o_f4)), (h0, oX10 b o_thrown 0 o_taped z31 z32 z27 z28 z29 z30 o_lawNow o_walkSet o_oneWidow o_oneTurn o_askWorst o_mayWalk o_oftenAll o_oftenRoad o_oftenPegs)] H → va_D A [(b 1, .inl (cI, 149, .inl g59)), (b 14, .inl (cI, 149, .inl g33)), (b 4, .inl (cB, 900, .inl o_f4)), (h0, oX10 b o_thrown 0 o_taped z31 z32 z27 z28 z29 z30 o_lawNow o_walkSet o_oneWidow o_oneTurn o_askWorst o_mayWalk o_oftenAll o_oftenRoad o_oftenPegs)] → va_S A s.heap H locs → ∀ (ls : Array Slot), lv_has ls 2 [(1, .int x58), (0, .ref h0)] → W p l e ({ frames := 11, cells := 0, slots := 0, locals := 237 } : Room) s m ([.ref h0] : List Value).toArray below meth c H locs 0 0 Q (F0 m 87 ls []) := by
                    intro n57
                    induction n57 with
                    | zero =>
                      intro x58 g59 k60 k61 cb61 mm63
                      exact absurd mm63 (by have q9 := fb_rng x58; omega)
                    | succ n57 ih62 =>
                      intro x58 g59 k60 k61 cb61 mm63 H locs hP hD hS ls hl
                      refine lv_iload_n hx hb dX10_colony_87 rfl (lv_at hl 0 rfl) ?_
                      refine lv_sipush (v := 149) hx hb dX10_colony_88 (by decide) ?_
                      refine lv_icmp_ge (tgt := 112) hx hb dX10_colony_91 (by decide) (fun c64 => ?_) (fun c64 => ?_)
                      · have c64 := i_le ki_149 rfl c64
                        refine lv_aload_n hx hb dX10_colony_112 rfl (lv_at hl 1 rfl) ?_
                        refine va_get (D := G) (ci := 10) (v := .ref (b 1)) (C := RX10) (T := TX10) (N := 46) hx hb hts iG_X10 hown hK hP 3 rfl rfl 1 (by decide) (hts _ w_1193) (fun _ h9 => h9) rfl dX10_colony_113 ?_
                        refine lv_bipush (v := 9) hx hb dX10_colony_116 (by decide) ?_
                        refine va_iald hx hb hK hP 0 0 rfl rfl (ix_in ki_9 (by omega) (by omega)) dX10_colony_118 ?_
                        refine lv_topi (fun v65 ev65 => ?_)
                        have hwe66 : WI g59 := CB_all cb61 ⟨k38, cg38 (by omega)⟩ (by omega)
                        exact hret _ _ _ _ v65 (0, o_taped, z31, z32, z27, z28, z29, z30, g59, g33) (hP.sub (ws' := [(h0, oX10 b o_thrown 0 o_taped z31 z32 z27 z28 z29 z30 o_lawNow o_walkSet o_oneWidow o_oneTurn o_askWorst o_mayWalk o_oftenAll o_oftenRoad o_oftenPegs), (b 1, .inl (cI, 149, .inl g59)), (b 4, .inl (cB, 900, .inl o_f4)), (b 14, .inl (cI, 149, .inl g33))]) [3, 0, 2, 1] rfl) (hD.sub (ws' := [(h0, oX10 b o_thrown 0 o_taped z31 z32 z27 z28 z29 z30 o_lawNow o_walkSet o_oneWidow o_oneTurn o_askWorst o_mayWalk o_oftenAll o_oftenRoad o_oftenPegs), (b 1, .inl (cI, 149, .inl g59)), (b 4, .inl (cB, 900, .inl o_f4)), (b 14, .inl (cI, 149, .inl g33))]) [3, 0, 2, 1] rfl rfl) hS dX10_colony_119 (show 0 ≤ (0 : Int32).toInt ∧ (0 : Int32).toInt ≤ 900 ∧ 0 ≤ o_taped.toInt ∧ o_taped.toInt ≤ 900 ∧ 0 ≤ z31.toInt ∧ z31.toInt ≤ 900 ∧ 0 ≤ z32.toInt ∧ z32.toInt ≤ 900 ∧ WI g59 ∧ WB g33 from ⟨(by rw [ki_0]; decide), (by rw [ki_0]; decide), hl_o_taped, hh_o_taped, k34, k35, k36, k37, hwe66, k38⟩)
                      · have c64 := i_nle ki_149 rfl c64
                        refine lv_aload_n hx hb dX10_colony_94 rfl (lv_at hl 1 rfl) ?_
                        refine va_get (D := G) (ci := 10) (v := .ref (b 1)) (C := RX10) (T := TX10) (N := 46) hx hb hts iG_X10 hown hK hP 3 rfl rfl 1 (by decide) (hts _ w_1193) (fun _ h9 => h9) rfl dX10_colony_95 ?_
                        refine lv_iload_n hx hb dX10_colony_98 rfl (lv_at hl 0 rfl) ?_
                        refine lv_aload_n hx hb dX10_colony_99 rfl (lv_at hl 1 rfl) ?_
                        refine va_get (D := G) (ci := 10) (v := .ref (b 14)) (C := RX10) (T := TX10) (N := 46) hx hb hts iG_X10 hown hK hP 3 rfl rfl 14 (by decide) (hts _ w_1206) (fun _ h9 => h9) rfl dX10_colony_100 ?_
                        refine lv_iload_n hx hb dX10_colony_103 rfl (lv_at hl 0 rfl) ?_
                        refine va_iald hx hb hK hP 1 0 rfl rfl (ix_in rfl (by omega) (by omega)) dX10_colony_104 ?_
                        refine lv_topi (fun v67 ev67 => ?_)
                        refine va_iast hx hb hK hP hD hS 0 0 rfl rfl (ix_in rfl (by omega) (by omega)) dX10_colony_105 (fun H locs hP hD hS => ?_)
                        obtain ⟨f68, qf68⟩ : ∃ g, g = upd g59 x58.toNatClampNeg v67 := ⟨_, rfl⟩
                        rw [← qf68] at hP hD
                        have hP : va_P G vwCl [(b 1, .inl (cI, 149, .inl f68)), (b 14, .inl (cI, 149, .inl g33)), (b 4, .inl (cB, 900, .inl o_f4)), (h0, oX10 b o_thrown 0 o_taped z31 z32 z27 z28 z29 z30 o_lawNow o_walkSet o_oneWidow o_oneTurn o_askWorst o_mayWalk o_oftenAll o_oftenRoad o_oftenPegs)] H := hP
                        have hD : va_D A [(b 1, .inl (cI, 149, .inl f68)), (b 14, .inl (cI, 149, .inl g33)), (b 4, .inl (cB, 900, .inl o_f4)), (h0, oX10 b o_thrown 0 o_taped z31 z32 z27 z28 z29 z30 o_lawNow o_walkSet o_oneWidow o_oneTurn o_askWorst o_mayWalk o_oftenAll o_oftenRoad o_oftenPegs)] := hD
                        obtain ⟨v69, ev69⟩ : ∃ y : Int32, y = x58 + 1 := ⟨_, rfl⟩
                        have tv69 : v69.toInt = x58.toInt + 1 := ti_add rfl ki_1 ev69 (by omega) (by omega)
                        refine lv_iinc (v := v69) (lv' := [(1, .int v69), (0, .ref h0)]) hx hb dX10_colony_106 hl (k := 0) rfl (by rw [ev69]; rfl) (by decide) rfl (fun ls hl => ?_)
                        refine lv_goto (tgt := 87) hx hb dX10_colony_109 (by decide) ?_
                        exact ih62 v69 f68 (by omega) (by omega) (by rw [qf68]; exact CB_up cb61 rfl (by omega) (by omega) rfl (by omega) (by omega) ev67 (by omega)) (by omega) _ _ hP hD hS ls (lv_sub hl [0, 1] rfl)
                  exact lp56 150 0 o_f1 (by rw [ki_0]; decide) (by rw [ki_0]; decide) CB_0 (by rw [ki_0]; decide) _ _ hP hD hS ls (lv_sub hl [0, 1] rfl)
                · exact absurd a54 (by omega)
              · have c48 := i_ne rfl ki_0 c48
                refine lv_aload_n hx hb dX10_colony_68 rfl (lv_at hl 1 rfl) ?_
                refine k_v (wc := [(h0, oX10 b o_thrown 0 o_taped z31 z32 z27 z28 z29 z30 o_lawNow o_walkSet o_oneWidow o_oneTurn o_askWorst o_mayWalk o_oftenAll o_oftenRoad o_oftenPegs), (b 4, .inl (cB, 900, .inl o_f4)), (b 14, .inl (cI, 149, .inl g33))]) (wr := [(b 1, .inl (cI, 149, .inl o_f1))]) hP hD hS hA [3, 2, 1] [0] rfl rfl rfl (by decide) (va_runV (As := []) (rest := []) ⟨hx, hb, hml, hown, hts⟩ (f_X10_readLine l G cI cJ cZ cB cQ _ ad fm h0 b o_thrown 0 o_taped z31 z32 z27 z28 z29 z30 o_lawNow o_walkSet o_oneWidow o_oneTurn o_askWorst o_mayWalk o_oftenAll o_oftenRoad o_oftenPegs o_f4 g33 (fun q9 => cg38 (by omega)) (by omega) (by omega) (by rw [ki_0]; decide) (by rw [ki_0]; decide) hl_o_taped hh_o_taped k34 k35 k36 k37 hl_o_oneTurn hh_o_oneTurn k38) (cwV 0 hts (gV w_1377 w_1379 wp_86 w_11 w_1380) rfl rfl rfl ⟨rfl, hd_X10_readLine⟩ ⟨Nat.le_of_ble_eq_true rfl, Nat.le_of_ble_eq_true rfl⟩) (mVs hK hZ hP hD hE hS hA [3, 2, 1] rfl rfl [] 3 10 rfl rfl) rfl rfl hl.1 rfl (lv_room (Nat.le_of_ble_eq_true rfl)) dX10_colony_69 ⟨Nat.le_of_ble_eq_true rfl, Nat.le_of_ble_eq_true rfl⟩) (fun u71 H locs hw72 hP hD hS => ?_)
                obtain ⟨o_ato73, o_fromo74, o_tokeno75, o_valueo76, o_faultKindo77, o_faultPlaceo78, o_f14o79⟩ := u71
                try dsimp only at hw72
                have hP : va_P G vwCl [(b 1, .inl (cI, 149, .inl o_f1)), (h0, oX10 b o_thrown 0 o_taped o_ato73 o_fromo74 o_tokeno75 o_valueo76 o_faultKindo77 o_faultPlaceo78 o_lawNow o_walkSet o_oneWidow o_oneTurn o_askWorst o_mayWalk o_oftenAll o_oftenRoad o_oftenPegs), (b 4, .inl (cB, 900, .inl o_f4)), (b 14, .inl (cI, 149, .inl o_f14o79))] H := hP
                have hD : va_D A [(b 1, .inl (cI, 149, .inl o_f1)), (h0, oX10 b o_thrown 0 o_taped o_ato73 o_fromo74 o_tokeno75 o_valueo76 o_faultKindo77 o_faultPlaceo78 o_lawNow o_walkSet o_oneWidow o_oneTurn o_askWorst o_mayWalk o_oftenAll o_oftenRoad o_oftenPegs), (b 4, .inl (cB, 900, .inl o_f4)), (b 14, .inl (cI, 149, .inl o_f14o79))] := hD
                obtain ⟨w80, w81, w82, w83, w84, w85, w86, w87, w88⟩ : 0 ≤ o_ato73.toInt ∧ o_ato73.toInt ≤ 900 ∧ 0 ≤ o_fromo74.toInt ∧ o_fromo74.toInt ≤ 900 ∧ WB o_f14o79 ∧ z31.toInt ≤ o_ato73.toInt ∧ (o_faultKindo77.toInt = 0 → WG o_f14o79) ∧ (o_f14o79 9).toInt = (g33 9).toInt + 1 ∧ (¬ o_faultKindo77.toInt = 0 ∨ o_tokeno75.toInt = 0 ∨ z31.toInt < o_ato73.toInt) := hw72
                obtain ⟨w9a, w9b⟩ := WB_9 k38
                refine lv_goto (tgt := 54) hx hb dX10_colony_72 (by decide) ?_
                exact ih39 o_tokeno75 o_valueo76 o_faultKindo77 o_faultPlaceo78 o_ato73 o_fromo74 o_f14o79 w80 w81 w82 w83 w84 w86 (by omega) (by omega) (mc_dn (by omega) (by omega) w88 (by omega) mm40) _ _ (hP.sub (ws' := [(b 1, .inl (cI, 149, .inl o_f1)), (b 14, .inl (cI, 149, .inl o_f14o79)), (h0, oX10 b o_thrown 0 o_taped o_ato73 o_fromo74 o_tokeno75 o_valueo76 o_faultKindo77 o_faultPlaceo78 o_lawNow o_walkSet o_oneWidow o_oneTurn o_askWorst o_mayWalk o_oftenAll o_oftenRoad o_oftenPegs), (b 4, .inl (cB, 900, .inl o_f4))]) [0, 3, 1, 2] rfl) (hD.sub (ws' := [(b 1, .inl (cI, 149, .inl o_f1)), (b 14, .inl (cI, 149, .inl o_f14o79)), (h0, oX10 b o_thrown 0 o_taped o_ato73 o_fromo74 o_tokeno75 o_valueo76 o_faultKindo77 o_faultPlaceo78 o_lawNow o_walkSet o_oneWidow o_oneTurn o_askWorst o_mayWalk o_oftenAll o_oftenRoad o_oftenPegs), (b 4, .inl (cB, 900, .inl o_f4))]) [0, 3, 1, 2] rfl rfl) hS ls (lv_sub hl [0, 1] rfl)
            · skip
              refine lv_if_eq (tgt := 75) hx hb dX10_colony_58 (by decide) (fun c89 => ?_) (fun c89 => absurd (by decide) c89)
              refine lv_aload_n hx hb dX10_colony_75 rfl (lv_at hl 1 rfl) ?_
              refine k_i (wc := [(h0, oX10 b o_thrown 0 o_taped z31 z32 z27 z28 z29 z30 o_lawNow o_walkSet o_oneWidow o_oneTurn o_askWorst o_mayWalk o_oftenAll o_oftenRoad o_oftenPegs)]) (wr := [(b 1, .inl (cI, 149, .inl o_f1)), (b 14, .inl (cI, 149, .inl g33)), (b 4, .inl (cB, 900, .inl o_f4))]) hP hD hS hA [3] [0, 1, 2] rfl rfl rfl (by decide) (va_runV (As := []) (rest := []) ⟨hx, hb, hml, hown, hts⟩ (f_X10_good l G cI cJ cZ cB cQ _ h0 b o_thrown 0 o_taped z31 z32 z27 z28 z29 z30 o_lawNow o_walkSet o_oneWidow o_oneTurn o_askWorst o_mayWalk o_oftenAll o_oftenRoad o_oftenPegs (by rw [ki_0]; decide) (by rw [ki_0]; decide) hl_o_taped hh_o_taped k34 k35 k36 k37 hl_o_oneTurn hh_o_oneTurn) (cwV 0 hts (gV w_1373 w_1375 wp_85 w_11 w_1376) rfl rfl rfl ⟨rfl, hd_X10_good⟩ ⟨Nat.le_of_ble_eq_true rfl, Nat.le_of_ble_eq_true rfl⟩) (mV hK hZ hP hD [3] rfl rfl [] 3 10 rfl rfl) rfl rfl hl.1 rfl (lv_room (Nat.le_of_ble_eq_true rfl)) dX10_colony_76 ⟨Nat.le_of_ble_eq_true rfl, Nat.le_of_ble_eq_true rfl⟩) (fun r90 u91 H locs hw92 hP hD hS => ?_)
              try dsimp only at hw92
              have hP : va_P G vwCl [(b 1, .inl (cI, 149, .inl o_f1)), (b 14, .inl (cI, 149, .inl g33)), (b 4, .inl (cB, 900, .inl o_f4)), (h0, oX10 b o_thrown 0 o_taped z31 z32 z27 z28 z29 z30 o_lawNow o_walkSet o_oneWidow o_oneTurn o_askWorst o_mayWalk o_oftenAll o_oftenRoad o_oftenPegs)] H := hP
              have hD : va_D A [(b 1, .inl (cI, 149, .inl o_f1)), (b 14, .inl (cI, 149, .inl g33)), (b 4, .inl (cB, 900, .inl o_f4)), (h0, oX10 b o_thrown 0 o_taped z31 z32 z27 z28 z29 z30 o_lawNow o_walkSet o_oneWidow o_oneTurn o_askWorst o_mayWalk o_oftenAll o_oftenRoad o_oftenPegs)] := hD
              rcases hw92 with ⟨rfl, a94⟩ | ⟨rfl, a95⟩
              · exact absurd a94 (by omega)
              · skip
                refine lv_if_ne (tgt := 85) hx hb dX10_colony_79 (by decide) (fun c96 => absurd (by decide) c96) (fun c96 => ?_)
                refine lv_bipush (v := (-4)) hx hb dX10_colony_82 (by decide) ?_
                exact hret _ _ _ _ (-4) (0, o_taped, z31, z32, z27, z28, z29, z30, o_f1, g33) (hP.sub (ws' := [(h0, oX10 b o_thrown 0 o_taped z31 z32 z27 z28 z29 z30 o_lawNow o_walkSet o_oneWidow o_oneTurn o_askWorst o_mayWalk o_oftenAll o_oftenRoad o_oftenPegs), (b 1, .inl (cI, 149, .inl o_f1)), (b 4, .inl (cB, 900, .inl o_f4)), (b 14, .inl (cI, 149, .inl g33))]) [3, 0, 2, 1] rfl) (hD.sub (ws' := [(h0, oX10 b o_thrown 0 o_taped z31 z32 z27 z28 z29 z30 o_lawNow o_walkSet o_oneWidow o_oneTurn o_askWorst o_mayWalk o_oftenAll o_oftenRoad o_oftenPegs), (b 1, .inl (cI, 149, .inl o_f1)), (b 4, .inl (cB, 900, .inl o_f4)), (b 14, .inl (cI, 149, .inl g33))]) [3, 0, 2, 1] rfl rfl) hS dX10_colony_84 (show 0 ≤ (0 : Int32).toInt ∧ (0 : Int32).toInt ≤ 900 ∧ 0 ≤ o_taped.toInt ∧ o_taped.toInt ≤ 900 ∧ 0 ≤ z31.toInt ∧ z31.toInt ≤ 900 ∧ 0 ≤ z32.toInt ∧ z32.toInt ≤ 900 ∧ WI o_f1 ∧ WB g33 from ⟨(by rw [ki_0]; decide), (by rw [ki_0]; decide), hl_o_taped, hh_o_taped, k34, k35, k36, k37, ha_o_f1, k38⟩)
        exact lp25 903 o_tokeno16 o_valueo17 0 (-1) o_ato14 o_fromo15 g4 w18 w19 w20 w21 k7 (fun _ => WG_none (by omega)) (by omega) (by omega) (mc_st (by omega)) _ _ hP hD hS ls (lv_sub hl [0, 1] rfl)
      · have c10 := i_nle ki_149 rfl c10
        refine lv_aload_n hx hb dX10_colony_37 rfl (lv_at hl 1 rfl) ?_
        refine va_get (D := G) (ci := 10) (v := .ref (b 14)) (C := RX10) (T := TX10) (N := 46) hx hb hts iG_X10 hown hK hP 0 rfl rfl 14 (by decide) (hts _ w_1206) (fun _ h9 => h9) rfl dX10_colony_38 ?_
        refine lv_iload_n hx hb dX10_colony_41 rfl (lv_at hl 0 rfl) ?_
        refine lv_iconst (v := 0) hx hb dX10_colony_42 (by decide) ?_
        refine va_iast hx hb hK hP hD hS 3 0 rfl rfl (ix_in rfl (by omega) (by omega)) dX10_colony_43 (fun H locs hP hD hS => ?_)
        obtain ⟨f97, qf97⟩ : ∃ g, g = upd g4 x3.toNatClampNeg (0 : Int32) := ⟨_, rfl⟩
        rw [← qf97] at hP hD
        have hb97 : WB f97 := by rw [qf97]; exact WB_put0 k7 rfl (by omega) (by omega)
        have hP : va_P G vwCl [(h0, oX10 b o_thrown 0 o_taped 0 o_from o_token o_value 0 (-1) o_lawNow o_walkSet o_oneWidow o_oneTurn o_askWorst o_mayWalk o_oftenAll o_oftenRoad o_oftenPegs), (b 1, .inl (cI, 149, .inl o_f1)), (b 4, .inl (cB, 900, .inl o_f4)), (b 14, .inl (cI, 149, .inl f97))] H := hP
        have hD : va_D A [(h0, oX10 b o_thrown 0 o_taped 0 o_from o_token o_value 0 (-1) o_lawNow o_walkSet o_oneWidow o_oneTurn o_askWorst o_mayWalk o_oftenAll o_oftenRoad o_oftenPegs), (b 1, .inl (cI, 149, .inl o_f1)), (b 4, .inl (cB, 900, .inl o_f4)), (b 14, .inl (cI, 149, .inl f97))] := hD
        obtain ⟨v99, ev99⟩ : ∃ y : Int32, y = x3 + 1 := ⟨_, rfl⟩
        have tv99 : v99.toInt = x3.toInt + 1 := ti_add rfl ki_1 ev99 (by omega) (by omega)
        refine lv_iinc (v := v99) (lv' := [(1, .int v99), (0, .ref h0)]) hx hb dX10_colony_44 hl (k := 0) rfl (by rw [ev99]; rfl) (by decide) rfl (fun ls hl => ?_)
        refine lv_goto (tgt := 30) hx hb dX10_colony_47 (by decide) ?_
        exact ih8 v99 f97 (by omega) (by omega) hb97 (by rw [qf97]; exact zf 7 zz7 rfl (by omega) (by omega)) (by rw [qf97]; exact zf 9 zy7 rfl (by omega) (by omega)) (by omega) _ _ hP hD hS ls (lv_sub hl [0, 1] rfl)
  exact lp1 150 0 o_f14 (by rw [ki_0]; decide) (by rw [ki_0]; decide) ha_o_f14 (fun q9 => absurd q9 (by rw [ki_0]; decide)) (fun q9 => absurd q9 (by rw [ki_0]; decide)) (by rw [ki_0]; decide) _ _ hP hD hS ls (lv_sub hl [0, 1] rfl)
