theorem wp_83 : Cond.selects "WidowRoadsModel" yX10_advance yX10_advance ∈ GW := GW_p 83 (by decide +kernel) rfl
theorem wp_84 : Cond.selects "WidowRoadsModel" yX10_see yX10_see ∈ GW := GW_p 84 (by decide +kernel) rfl
theorem wp_85 : Cond.selects "WidowRoadsModel" yX10_good yX10_good ∈ GW := GW_p 85 (by decide +kernel) rfl
theorem wp_88 : Cond.selects "WidowRoadsModel" yX10_expects yX10_expects ∈ GW := GW_p 88 (by decide +kernel) rfl
theorem wp_89 : Cond.selects "WidowRoadsModel" yX10_takes yX10_takes ∈ GW := GW_p 89 (by decide +kernel) rfl
theorem wp_90 : Cond.selects "WidowRoadsModel" yX10_is yX10_is ∈ GW := GW_p 90 (by decide +kernel) rfl
theorem wp_91 : Cond.selects "WidowRoadsModel" yX10_errs yX10_errs ∈ GW := GW_p 91 (by decide +kernel) rfl
theorem wp_92 : Cond.selects "WidowRoadsModel" yX10_toldBy yX10_toldBy ∈ GW := GW_p 92 (by decide +kernel) rfl
theorem wp_93 : Cond.selects "WidowRoadsModel" yX10_number yX10_number ∈ GW := GW_p 93 (by decide +kernel) rfl
theorem wp_97 : Cond.selects "WidowRoadsModel" yX10_isTaken yX10_isTaken ∈ GW := GW_p 97 (by decide +kernel) rfl
theorem w_1196 : Jvm.Cond.fieldLink "WidowRoadsModel" (20 : Nat) "WidowRoadsModel" "tape" "[B" ∈ GW := GW_t 1196 (by decide +kernel) rfl
theorem w_1197 : Jvm.Cond.fieldLink "WidowRoadsModel" (123 : Nat) "WidowRoadsModel" "taped" "I" ∈ GW := GW_t 1197 (by decide +kernel) rfl
theorem w_1198 : Jvm.Cond.fieldLink "WidowRoadsModel" (24 : Nat) "WidowRoadsModel" "five" "[I" ∈ GW := GW_t 1198 (by decide +kernel) rfl
theorem w_1199 : Jvm.Cond.fieldLink "WidowRoadsModel" (126 : Nat) "WidowRoadsModel" "size" "I" ∈ GW := GW_t 1199 (by decide +kernel) rfl
theorem w_1200 : Jvm.Cond.fieldLink "WidowRoadsModel" (129 : Nat) "WidowRoadsModel" "at" "I" ∈ GW := GW_t 1200 (by decide +kernel) rfl
theorem w_1201 : Jvm.Cond.fieldLink "WidowRoadsModel" (136 : Nat) "WidowRoadsModel" "from" "I" ∈ GW := GW_t 1201 (by decide +kernel) rfl
theorem w_1202 : Jvm.Cond.fieldLink "WidowRoadsModel" (139 : Nat) "WidowRoadsModel" "token" "I" ∈ GW := GW_t 1202 (by decide +kernel) rfl
theorem w_1203 : Jvm.Cond.fieldLink "WidowRoadsModel" (150 : Nat) "WidowRoadsModel" "value" "I" ∈ GW := GW_t 1203 (by decide +kernel) rfl
theorem w_1204 : Jvm.Cond.fieldLink "WidowRoadsModel" (160 : Nat) "WidowRoadsModel" "faultKind" "I" ∈ GW := GW_t 1204 (by decide +kernel) rfl
theorem w_1205 : Jvm.Cond.fieldLink "WidowRoadsModel" (27 : Nat) "WidowRoadsModel" "faultPlace" "I" ∈ GW := GW_t 1205 (by decide +kernel) rfl
theorem w_1206 : Jvm.Cond.fieldLink "WidowRoadsModel" (31 : Nat) "WidowRoadsModel" "fresh" "[I" ∈ GW := GW_t 1206 (by decide +kernel) rfl
theorem w_1359 : Jvm.Cond.methodLink "WidowRoadsModel" (179 : Nat) ({ cls := "WidowRoadsModel", name := "advance", desc := "()V" } : Jvm.MethodName) ∈ GW := GW_t 1359 (by decide +kernel) rfl
theorem w_1361 : Jvm.Cond.instanceMethod ({ cls := "WidowRoadsModel", name := "advance", desc := "()V" } : Jvm.MethodName) ∈ GW := GW_t 1361 (by decide +kernel) rfl
theorem w_1362 : Jvm.Cond.code ({ cls := "WidowRoadsModel", name := "advance", desc := "()V" } : Jvm.MethodName) prog_12_method_20_code (2 : Nat) (Option.none : Option Jvm.ClassFile.FieldType) ∈ GW := GW_t 1362 (by decide +kernel) rfl
theorem w_1363 : Jvm.Cond.methodLink "WidowRoadsModel" (132 : Nat) ({ cls := "WidowRoadsModel", name := "see", desc := "(I)I" } : Jvm.MethodName) ∈ GW := GW_t 1363 (by decide +kernel) rfl
theorem w_1365 : Jvm.Cond.instanceMethod ({ cls := "WidowRoadsModel", name := "see", desc := "(I)I" } : Jvm.MethodName) ∈ GW := GW_t 1365 (by decide +kernel) rfl
theorem w_1366 : Jvm.Cond.code ({ cls := "WidowRoadsModel", name := "see", desc := "(I)I" } : Jvm.MethodName) prog_12_method_19_code (2 : Nat) (Option.some Jvm.ClassFile.FieldType.int) ∈ GW := GW_t 1366 (by decide +kernel) rfl
theorem w_1367 : Jvm.Cond.constantLong "WidowRoadsModel" (142 : Nat) (97 : Int64) ∈ GW := GW_t 1367 (by decide +kernel) rfl
theorem w_1368 : Jvm.Cond.constantLong "WidowRoadsModel" (144 : Nat) (122 : Int64) ∈ GW := GW_t 1368 (by decide +kernel) rfl
theorem w_1369 : Jvm.Cond.constantLong "WidowRoadsModel" (146 : Nat) (48 : Int64) ∈ GW := GW_t 1369 (by decide +kernel) rfl
theorem w_1370 : Jvm.Cond.constantLong "WidowRoadsModel" (148 : Nat) (57 : Int64) ∈ GW := GW_t 1370 (by decide +kernel) rfl
theorem w_1371 : Jvm.Cond.constant "WidowRoadsModel" (153 : Nat) (99999 : Int32) ∈ GW := GW_t 1371 (by decide +kernel) rfl
theorem w_1372 : Jvm.Cond.methodLink "WidowRoadsModel" (154 : Nat) ({ cls := "java/lang/Math", name := "min", desc := "(II)I" } : Jvm.MethodName) ∈ GW := GW_t 1372 (by decide +kernel) rfl
theorem w_1373 : Jvm.Cond.methodLink "WidowRoadsModel" (163 : Nat) ({ cls := "WidowRoadsModel", name := "good", desc := "()Z" } : Jvm.MethodName) ∈ GW := GW_t 1373 (by decide +kernel) rfl
theorem w_1375 : Jvm.Cond.instanceMethod ({ cls := "WidowRoadsModel", name := "good", desc := "()Z" } : Jvm.MethodName) ∈ GW := GW_t 1375 (by decide +kernel) rfl
theorem w_1376 : Jvm.Cond.code ({ cls := "WidowRoadsModel", name := "good", desc := "()Z" } : Jvm.MethodName) prog_12_method_21_code (1 : Nat) (Option.some Jvm.ClassFile.FieldType.boolean) ∈ GW := GW_t 1376 (by decide +kernel) rfl
theorem w_1386 : Jvm.Cond.methodLink "WidowRoadsModel" (189 : Nat) ({ cls := "WidowRoadsModel", name := "expects", desc := "(Ljava/lang/String;)V" } : Jvm.MethodName) ∈ GW := GW_t 1386 (by decide +kernel) rfl
theorem w_1388 : Jvm.Cond.instanceMethod ({ cls := "WidowRoadsModel", name := "expects", desc := "(Ljava/lang/String;)V" } : Jvm.MethodName) ∈ GW := GW_t 1388 (by decide +kernel) rfl
theorem w_1389 : Jvm.Cond.code ({ cls := "WidowRoadsModel", name := "expects", desc := "(Ljava/lang/String;)V" } : Jvm.MethodName) prog_12_method_25_code (2 : Nat) (Option.none : Option Jvm.ClassFile.FieldType) ∈ GW := GW_t 1389 (by decide +kernel) rfl
theorem w_1390 : Jvm.Cond.methodLink "WidowRoadsModel" (182 : Nat) ({ cls := "WidowRoadsModel", name := "takes", desc := "(Ljava/lang/String;)Z" } : Jvm.MethodName) ∈ GW := GW_t 1390 (by decide +kernel) rfl
theorem w_1392 : Jvm.Cond.instanceMethod ({ cls := "WidowRoadsModel", name := "takes", desc := "(Ljava/lang/String;)Z" } : Jvm.MethodName) ∈ GW := GW_t 1392 (by decide +kernel) rfl
theorem w_1393 : Jvm.Cond.code ({ cls := "WidowRoadsModel", name := "takes", desc := "(Ljava/lang/String;)Z" } : Jvm.MethodName) prog_12_method_24_code (3 : Nat) (Option.some Jvm.ClassFile.FieldType.boolean) ∈ GW := GW_t 1393 (by decide +kernel) rfl
theorem w_1394 : Jvm.Cond.methodLink "WidowRoadsModel" (175 : Nat) ({ cls := "WidowRoadsModel", name := "is", desc := "(Ljava/lang/String;)Z" } : Jvm.MethodName) ∈ GW := GW_t 1394 (by decide +kernel) rfl
theorem w_1396 : Jvm.Cond.instanceMethod ({ cls := "WidowRoadsModel", name := "is", desc := "(Ljava/lang/String;)Z" } : Jvm.MethodName) ∈ GW := GW_t 1396 (by decide +kernel) rfl
theorem w_1397 : Jvm.Cond.code ({ cls := "WidowRoadsModel", name := "is", desc := "(Ljava/lang/String;)Z" } : Jvm.MethodName) prog_12_method_23_code (4 : Nat) (Option.some Jvm.ClassFile.FieldType.boolean) ∈ GW := GW_t 1397 (by decide +kernel) rfl
theorem w_1398 : Jvm.Cond.methodLink "WidowRoadsModel" (166 : Nat) ({ cls := "java/lang/String", name := "length", desc := "()I" } : Jvm.MethodName) ∈ GW := GW_t 1398 (by decide +kernel) rfl
theorem w_1399 : Jvm.Cond.methodLink "WidowRoadsModel" (171 : Nat) ({ cls := "java/lang/String", name := "charAt", desc := "(I)C" } : Jvm.MethodName) ∈ GW := GW_t 1399 (by decide +kernel) rfl
theorem w_1400 : Jvm.Cond.methodLink "WidowRoadsModel" (185 : Nat) ({ cls := "WidowRoadsModel", name := "errs", desc := "(I)V" } : Jvm.MethodName) ∈ GW := GW_t 1400 (by decide +kernel) rfl
theorem w_1402 : Jvm.Cond.instanceMethod ({ cls := "WidowRoadsModel", name := "errs", desc := "(I)V" } : Jvm.MethodName) ∈ GW := GW_t 1402 (by decide +kernel) rfl
theorem w_1403 : Jvm.Cond.code ({ cls := "WidowRoadsModel", name := "errs", desc := "(I)V" } : Jvm.MethodName) prog_12_method_22_code (2 : Nat) (Option.none : Option Jvm.ClassFile.FieldType) ∈ GW := GW_t 1403 (by decide +kernel) rfl
theorem w_1405 : Jvm.Cond.methodLink "WidowRoadsModel" (199 : Nat) ({ cls := "WidowRoadsModel", name := "toldBy", desc := "(Ljava/lang/String;II)I" } : Jvm.MethodName) ∈ GW := GW_t 1405 (by decide +kernel) rfl
theorem w_1407 : Jvm.Cond.instanceMethod ({ cls := "WidowRoadsModel", name := "toldBy", desc := "(Ljava/lang/String;II)I" } : Jvm.MethodName) ∈ GW := GW_t 1407 (by decide +kernel) rfl
theorem w_1408 : Jvm.Cond.code ({ cls := "WidowRoadsModel", name := "toldBy", desc := "(Ljava/lang/String;II)I" } : Jvm.MethodName) prog_12_method_27_code (4 : Nat) (Option.some Jvm.ClassFile.FieldType.int) ∈ GW := GW_t 1408 (by decide +kernel) rfl
theorem w_1409 : Jvm.Cond.methodLink "WidowRoadsModel" (193 : Nat) ({ cls := "WidowRoadsModel", name := "number", desc := "(II)I" } : Jvm.MethodName) ∈ GW := GW_t 1409 (by decide +kernel) rfl
theorem w_1411 : Jvm.Cond.instanceMethod ({ cls := "WidowRoadsModel", name := "number", desc := "(II)I" } : Jvm.MethodName) ∈ GW := GW_t 1411 (by decide +kernel) rfl
theorem w_1412 : Jvm.Cond.code ({ cls := "WidowRoadsModel", name := "number", desc := "(II)I" } : Jvm.MethodName) prog_12_method_26_code (4 : Nat) (Option.some Jvm.ClassFile.FieldType.int) ∈ GW := GW_t 1412 (by decide +kernel) rfl
theorem w_1432 : Jvm.Cond.methodLink "WidowRoadsModel" (211 : Nat) ({ cls := "WidowRoadsModel", name := "isTaken", desc := "(III)Z" } : Jvm.MethodName) ∈ GW := GW_t 1432 (by decide +kernel) rfl
theorem w_1434 : Jvm.Cond.instanceMethod ({ cls := "WidowRoadsModel", name := "isTaken", desc := "(III)Z" } : Jvm.MethodName) ∈ GW := GW_t 1434 (by decide +kernel) rfl
theorem w_1435 : Jvm.Cond.code ({ cls := "WidowRoadsModel", name := "isTaken", desc := "(III)Z" } : Jvm.MethodName) prog_12_method_30_code (6 : Nat) (Option.some Jvm.ClassFile.FieldType.boolean) ∈ GW := GW_t 1435 (by decide +kernel) rfl
theorem hd_X10_advance : yX10_advance.cls ≠ "java/lang/invoke/MethodHandle" ∧ yX10_advance.cls ≠ "java/lang/invoke/VarHandle" ∧ (parseMethodDescriptor yX10_advance.desc).map (fun d => d.parameters.length) = some 0 := by decide +kernel
theorem hd_X10_errs : yX10_errs.cls ≠ "java/lang/invoke/MethodHandle" ∧ yX10_errs.cls ≠ "java/lang/invoke/VarHandle" ∧ (parseMethodDescriptor yX10_errs.desc).map (fun d => d.parameters.length) = some 1 := by decide +kernel
theorem hd_X10_expects : yX10_expects.cls ≠ "java/lang/invoke/MethodHandle" ∧ yX10_expects.cls ≠ "java/lang/invoke/VarHandle" ∧ (parseMethodDescriptor yX10_expects.desc).map (fun d => d.parameters.length) = some 1 := by decide +kernel
theorem hd_X10_good : yX10_good.cls ≠ "java/lang/invoke/MethodHandle" ∧ yX10_good.cls ≠ "java/lang/invoke/VarHandle" ∧ (parseMethodDescriptor yX10_good.desc).map (fun d => d.parameters.length) = some 0 := by decide +kernel
theorem hd_X10_is : yX10_is.cls ≠ "java/lang/invoke/MethodHandle" ∧ yX10_is.cls ≠ "java/lang/invoke/VarHandle" ∧ (parseMethodDescriptor yX10_is.desc).map (fun d => d.parameters.length) = some 1 := by decide +kernel
theorem hd_X10_isTaken : yX10_isTaken.cls ≠ "java/lang/invoke/MethodHandle" ∧ yX10_isTaken.cls ≠ "java/lang/invoke/VarHandle" ∧ (parseMethodDescriptor yX10_isTaken.desc).map (fun d => d.parameters.length) = some 3 := by decide +kernel
theorem hd_X10_number : yX10_number.cls ≠ "java/lang/invoke/MethodHandle" ∧ yX10_number.cls ≠ "java/lang/invoke/VarHandle" ∧ (parseMethodDescriptor yX10_number.desc).map (fun d => d.parameters.length) = some 2 := by decide +kernel
theorem hd_X10_see : yX10_see.cls ≠ "java/lang/invoke/MethodHandle" ∧ yX10_see.cls ≠ "java/lang/invoke/VarHandle" ∧ (parseMethodDescriptor yX10_see.desc).map (fun d => d.parameters.length) = some 1 := by decide +kernel
theorem hd_X10_takes : yX10_takes.cls ≠ "java/lang/invoke/MethodHandle" ∧ yX10_takes.cls ≠ "java/lang/invoke/VarHandle" ∧ (parseMethodDescriptor yX10_takes.desc).map (fun d => d.parameters.length) = some 1 := by decide +kernel
theorem hd_X10_toldBy : yX10_toldBy.cls ≠ "java/lang/invoke/MethodHandle" ∧ yX10_toldBy.cls ≠ "java/lang/invoke/VarHandle" ∧ (parseMethodDescriptor yX10_toldBy.desc).map (fun d => d.parameters.length) = some 3 := by decide +kernel
theorem ki_22 : (22 : Int32).toInt = 22 := by decide
theorem kl_m1 : ((-1) : Int64).toInt = (-1) := by decide
theorem kl_48 : (48 : Int64).toInt = 48 := by decide
theorem kl_57 : (57 : Int64).toInt = 57 := by decide
theorem kl_97 : (97 : Int64).toInt = 97 := by decide
theorem kl_122 : (122 : Int64).toInt = 122 := by decide
theorem dX10_advance_0 : decode cX10_advance 0 = .ok (.aload_n 0, 1) := by decide +kernel
theorem dX10_advance_1 : decode cX10_advance 1 = .ok (.aload_n 0, 1) := by decide +kernel
theorem dX10_advance_2 : decode cX10_advance 2 = .ok (.getfield 129, 3) := by decide +kernel
theorem dX10_advance_5 : decode cX10_advance 5 = .ok (.invokevirtual 132, 3) := by decide +kernel
theorem dX10_advance_8 : decode cX10_advance 8 = .ok (.bipush 32, 2) := by decide +kernel
theorem dX10_advance_10 : decode cX10_advance 10 = .ok (.if_icmp .eq 16, 3) := by decide +kernel
theorem dX10_advance_13 : decode cX10_advance 13 = .ok (.aload_n 0, 1) := by decide +kernel
theorem dX10_advance_14 : decode cX10_advance 14 = .ok (.aload_n 0, 1) := by decide +kernel
theorem dX10_advance_15 : decode cX10_advance 15 = .ok (.getfield 129, 3) := by decide +kernel
theorem dX10_advance_18 : decode cX10_advance 18 = .ok (.invokevirtual 132, 3) := by decide +kernel
theorem dX10_advance_21 : decode cX10_advance 21 = .ok (.bipush 10, 2) := by decide +kernel
theorem dX10_advance_23 : decode cX10_advance 23 = .ok (.if_icmp .ne 16, 3) := by decide +kernel
theorem dX10_advance_26 : decode cX10_advance 26 = .ok (.aload_n 0, 1) := by decide +kernel
theorem dX10_advance_27 : decode cX10_advance 27 = .ok (.dup, 1) := by decide +kernel
theorem dX10_advance_28 : decode cX10_advance 28 = .ok (.getfield 129, 3) := by decide +kernel
theorem dX10_advance_31 : decode cX10_advance 31 = .ok (.iconst 1, 1) := by decide +kernel
theorem dX10_advance_32 : decode cX10_advance 32 = .ok (.iadd, 1) := by decide +kernel
theorem dX10_advance_33 : decode cX10_advance 33 = .ok (.putfield 129, 3) := by decide +kernel
theorem dX10_advance_36 : decode cX10_advance 36 = .ok (.goto (-36), 3) := by decide +kernel
theorem dX10_advance_39 : decode cX10_advance 39 = .ok (.aload_n 0, 1) := by decide +kernel
theorem dX10_advance_40 : decode cX10_advance 40 = .ok (.aload_n 0, 1) := by decide +kernel
theorem dX10_advance_41 : decode cX10_advance 41 = .ok (.getfield 129, 3) := by decide +kernel
theorem dX10_advance_44 : decode cX10_advance 44 = .ok (.putfield 136, 3) := by decide +kernel
theorem dX10_advance_47 : decode cX10_advance 47 = .ok (.aload_n 0, 1) := by decide +kernel
theorem dX10_advance_48 : decode cX10_advance 48 = .ok (.aload_n 0, 1) := by decide +kernel
theorem dX10_advance_49 : decode cX10_advance 49 = .ok (.getfield 129, 3) := by decide +kernel
theorem dX10_advance_52 : decode cX10_advance 52 = .ok (.invokevirtual 132, 3) := by decide +kernel
theorem dX10_advance_55 : decode cX10_advance 55 = .ok (.istore_n 1, 1) := by decide +kernel
theorem dX10_advance_56 : decode cX10_advance 56 = .ok (.iload_n 1, 1) := by decide +kernel
theorem dX10_advance_57 : decode cX10_advance 57 = .ok (.iconst (-1), 1) := by decide +kernel
theorem dX10_advance_58 : decode cX10_advance 58 = .ok (.if_icmp .ne 11, 3) := by decide +kernel
theorem dX10_advance_61 : decode cX10_advance 61 = .ok (.aload_n 0, 1) := by decide +kernel
theorem dX10_advance_62 : decode cX10_advance 62 = .ok (.iconst 0, 1) := by decide +kernel
theorem dX10_advance_63 : decode cX10_advance 63 = .ok (.putfield 139, 3) := by decide +kernel
theorem dX10_advance_66 : decode cX10_advance 66 = .ok (.goto 173, 3) := by decide +kernel
theorem dX10_advance_69 : decode cX10_advance 69 = .ok (.iload_n 1, 1) := by decide +kernel
theorem dX10_advance_70 : decode cX10_advance 70 = .ok (.i2l, 1) := by decide +kernel
theorem dX10_advance_71 : decode cX10_advance 71 = .ok (.ldc2_w 142, 3) := by decide +kernel
theorem dX10_advance_74 : decode cX10_advance 74 = .ok (.ldc2_w 144, 3) := by decide +kernel
theorem dX10_advance_77 : decode cX10_advance 77 = .ok (.invokestatic 106, 3) := by decide +kernel
theorem dX10_advance_80 : decode cX10_advance 80 = .ok (.ifCond .eq 45, 3) := by decide +kernel
theorem dX10_advance_83 : decode cX10_advance 83 = .ok (.aload_n 0, 1) := by decide +kernel
theorem dX10_advance_84 : decode cX10_advance 84 = .ok (.aload_n 0, 1) := by decide +kernel
theorem dX10_advance_85 : decode cX10_advance 85 = .ok (.getfield 129, 3) := by decide +kernel
theorem dX10_advance_88 : decode cX10_advance 88 = .ok (.invokevirtual 132, 3) := by decide +kernel
theorem dX10_advance_91 : decode cX10_advance 91 = .ok (.i2l, 1) := by decide +kernel
theorem dX10_advance_92 : decode cX10_advance 92 = .ok (.ldc2_w 142, 3) := by decide +kernel
theorem dX10_advance_95 : decode cX10_advance 95 = .ok (.ldc2_w 144, 3) := by decide +kernel
theorem dX10_advance_98 : decode cX10_advance 98 = .ok (.invokestatic 106, 3) := by decide +kernel
theorem dX10_advance_101 : decode cX10_advance 101 = .ok (.ifCond .eq 16, 3) := by decide +kernel
theorem dX10_advance_104 : decode cX10_advance 104 = .ok (.aload_n 0, 1) := by decide +kernel
theorem dX10_advance_105 : decode cX10_advance 105 = .ok (.dup, 1) := by decide +kernel
theorem dX10_advance_106 : decode cX10_advance 106 = .ok (.getfield 129, 3) := by decide +kernel
theorem dX10_advance_109 : decode cX10_advance 109 = .ok (.iconst 1, 1) := by decide +kernel
theorem dX10_advance_110 : decode cX10_advance 110 = .ok (.iadd, 1) := by decide +kernel
theorem dX10_advance_111 : decode cX10_advance 111 = .ok (.putfield 129, 3) := by decide +kernel
theorem dX10_advance_114 : decode cX10_advance 114 = .ok (.goto (-31), 3) := by decide +kernel
theorem dX10_advance_117 : decode cX10_advance 117 = .ok (.aload_n 0, 1) := by decide +kernel
theorem dX10_advance_118 : decode cX10_advance 118 = .ok (.iconst 1, 1) := by decide +kernel
theorem dX10_advance_119 : decode cX10_advance 119 = .ok (.putfield 139, 3) := by decide +kernel
theorem dX10_advance_122 : decode cX10_advance 122 = .ok (.goto 117, 3) := by decide +kernel
theorem dX10_advance_125 : decode cX10_advance 125 = .ok (.iload_n 1, 1) := by decide +kernel
theorem dX10_advance_126 : decode cX10_advance 126 = .ok (.i2l, 1) := by decide +kernel
theorem dX10_advance_127 : decode cX10_advance 127 = .ok (.ldc2_w 146, 3) := by decide +kernel
theorem dX10_advance_130 : decode cX10_advance 130 = .ok (.ldc2_w 148, 3) := by decide +kernel
theorem dX10_advance_133 : decode cX10_advance 133 = .ok (.invokestatic 106, 3) := by decide +kernel
theorem dX10_advance_136 : decode cX10_advance 136 = .ok (.ifCond .eq 78, 3) := by decide +kernel
theorem dX10_advance_139 : decode cX10_advance 139 = .ok (.aload_n 0, 1) := by decide +kernel
theorem dX10_advance_140 : decode cX10_advance 140 = .ok (.iconst 0, 1) := by decide +kernel
theorem dX10_advance_141 : decode cX10_advance 141 = .ok (.putfield 150, 3) := by decide +kernel
theorem dX10_advance_144 : decode cX10_advance 144 = .ok (.aload_n 0, 1) := by decide +kernel
theorem dX10_advance_145 : decode cX10_advance 145 = .ok (.aload_n 0, 1) := by decide +kernel
theorem dX10_advance_146 : decode cX10_advance 146 = .ok (.getfield 129, 3) := by decide +kernel
theorem dX10_advance_149 : decode cX10_advance 149 = .ok (.invokevirtual 132, 3) := by decide +kernel
theorem dX10_advance_152 : decode cX10_advance 152 = .ok (.i2l, 1) := by decide +kernel
theorem dX10_advance_153 : decode cX10_advance 153 = .ok (.ldc2_w 146, 3) := by decide +kernel
theorem dX10_advance_156 : decode cX10_advance 156 = .ok (.ldc2_w 148, 3) := by decide +kernel
theorem dX10_advance_159 : decode cX10_advance 159 = .ok (.invokestatic 106, 3) := by decide +kernel
theorem dX10_advance_162 : decode cX10_advance 162 = .ok (.ifCond .eq 44, 3) := by decide +kernel
theorem dX10_advance_165 : decode cX10_advance 165 = .ok (.aload_n 0, 1) := by decide +kernel
theorem dX10_advance_166 : decode cX10_advance 166 = .ok (.ldc 153, 2) := by decide +kernel
theorem dX10_advance_168 : decode cX10_advance 168 = .ok (.bipush 10, 2) := by decide +kernel
theorem dX10_advance_170 : decode cX10_advance 170 = .ok (.aload_n 0, 1) := by decide +kernel
theorem dX10_advance_171 : decode cX10_advance 171 = .ok (.getfield 150, 3) := by decide +kernel
theorem dX10_advance_174 : decode cX10_advance 174 = .ok (.imul, 1) := by decide +kernel
theorem dX10_advance_175 : decode cX10_advance 175 = .ok (.aload_n 0, 1) := by decide +kernel
theorem dX10_advance_176 : decode cX10_advance 176 = .ok (.aload_n 0, 1) := by decide +kernel
theorem dX10_advance_177 : decode cX10_advance 177 = .ok (.getfield 129, 3) := by decide +kernel
theorem dX10_advance_180 : decode cX10_advance 180 = .ok (.invokevirtual 132, 3) := by decide +kernel
theorem dX10_advance_183 : decode cX10_advance 183 = .ok (.iadd, 1) := by decide +kernel
theorem dX10_advance_184 : decode cX10_advance 184 = .ok (.bipush 48, 2) := by decide +kernel
theorem dX10_advance_186 : decode cX10_advance 186 = .ok (.isub, 1) := by decide +kernel
theorem dX10_advance_187 : decode cX10_advance 187 = .ok (.invokestatic 154, 3) := by decide +kernel
theorem dX10_advance_190 : decode cX10_advance 190 = .ok (.putfield 150, 3) := by decide +kernel
theorem dX10_advance_193 : decode cX10_advance 193 = .ok (.aload_n 0, 1) := by decide +kernel
theorem dX10_advance_194 : decode cX10_advance 194 = .ok (.dup, 1) := by decide +kernel
theorem dX10_advance_195 : decode cX10_advance 195 = .ok (.getfield 129, 3) := by decide +kernel
theorem dX10_advance_198 : decode cX10_advance 198 = .ok (.iconst 1, 1) := by decide +kernel
theorem dX10_advance_199 : decode cX10_advance 199 = .ok (.iadd, 1) := by decide +kernel
theorem dX10_advance_200 : decode cX10_advance 200 = .ok (.putfield 129, 3) := by decide +kernel
theorem dX10_advance_203 : decode cX10_advance 203 = .ok (.goto (-59), 3) := by decide +kernel
theorem dX10_advance_206 : decode cX10_advance 206 = .ok (.aload_n 0, 1) := by decide +kernel
theorem dX10_advance_207 : decode cX10_advance 207 = .ok (.iconst 2, 1) := by decide +kernel
theorem dX10_advance_208 : decode cX10_advance 208 = .ok (.putfield 139, 3) := by decide +kernel
theorem dX10_advance_211 : decode cX10_advance 211 = .ok (.goto 28, 3) := by decide +kernel
theorem dX10_advance_214 : decode cX10_advance 214 = .ok (.aload_n 0, 1) := by decide +kernel
theorem dX10_advance_215 : decode cX10_advance 215 = .ok (.iload_n 1, 1) := by decide +kernel
theorem dX10_advance_216 : decode cX10_advance 216 = .ok (.bipush 59, 2) := by decide +kernel
theorem dX10_advance_218 : decode cX10_advance 218 = .ok (.if_icmp .ne 7, 3) := by decide +kernel
theorem dX10_advance_221 : decode cX10_advance 221 = .ok (.iconst 3, 1) := by decide +kernel
theorem dX10_advance_222 : decode cX10_advance 222 = .ok (.goto 4, 3) := by decide +kernel
theorem dX10_advance_225 : decode cX10_advance 225 = .ok (.iconst 4, 1) := by decide +kernel
theorem dX10_advance_226 : decode cX10_advance 226 = .ok (.putfield 139, 3) := by decide +kernel
theorem dX10_advance_229 : decode cX10_advance 229 = .ok (.aload_n 0, 1) := by decide +kernel
theorem dX10_advance_230 : decode cX10_advance 230 = .ok (.dup, 1) := by decide +kernel
theorem dX10_advance_231 : decode cX10_advance 231 = .ok (.getfield 129, 3) := by decide +kernel
theorem dX10_advance_234 : decode cX10_advance 234 = .ok (.iconst 1, 1) := by decide +kernel
theorem dX10_advance_235 : decode cX10_advance 235 = .ok (.iadd, 1) := by decide +kernel
theorem dX10_advance_236 : decode cX10_advance 236 = .ok (.putfield 129, 3) := by decide +kernel
theorem dX10_advance_239 : decode cX10_advance 239 = .ok (.return_, 1) := by decide +kernel
theorem dX10_end_0 : decode cX10_end 0 = .ok (.iload_n 1, 1) := by decide +kernel
theorem dX10_end_1 : decode cX10_end 1 = .ok (.i2l, 1) := by decide +kernel
theorem dX10_end_2 : decode cX10_end 2 = .ok (.lconst 0, 1) := by decide +kernel
theorem dX10_end_3 : decode cX10_end 3 = .ok (.aload_n 0, 1) := by decide +kernel
theorem dX10_end_4 : decode cX10_end 4 = .ok (.getfield 123, 3) := by decide +kernel
theorem dX10_end_7 : decode cX10_end 7 = .ok (.i2l, 1) := by decide +kernel
theorem dX10_end_8 : decode cX10_end 8 = .ok (.invokestatic 106, 3) := by decide +kernel
theorem dX10_end_11 : decode cX10_end 11 = .ok (.ifCond .ne 5, 3) := by decide +kernel
theorem dX10_end_14 : decode cX10_end 14 = .ok (.iconst (-1), 1) := by decide +kernel
theorem dX10_end_15 : decode cX10_end 15 = .ok (.ireturn, 1) := by decide +kernel
theorem dX10_end_16 : decode cX10_end 16 = .ok (.aload_n 0, 1) := by decide +kernel
theorem dX10_end_17 : decode cX10_end 17 = .ok (.iload_n 1, 1) := by decide +kernel
theorem dX10_end_18 : decode cX10_end 18 = .ok (.putfield 123, 3) := by decide +kernel
theorem dX10_end_21 : decode cX10_end 21 = .ok (.iload_n 1, 1) := by decide +kernel
theorem dX10_end_22 : decode cX10_end 22 = .ok (.ireturn, 1) := by decide +kernel
theorem dX10_errs_0 : decode cX10_errs 0 = .ok (.aload_n 0, 1) := by decide +kernel
theorem dX10_errs_1 : decode cX10_errs 1 = .ok (.invokevirtual 163, 3) := by decide +kernel
theorem dX10_errs_4 : decode cX10_errs 4 = .ok (.ifCond .ne 4, 3) := by decide +kernel
theorem dX10_errs_7 : decode cX10_errs 7 = .ok (.return_, 1) := by decide +kernel
theorem dX10_errs_8 : decode cX10_errs 8 = .ok (.aload_n 0, 1) := by decide +kernel
theorem dX10_errs_9 : decode cX10_errs 9 = .ok (.iload_n 1, 1) := by decide +kernel
theorem dX10_errs_10 : decode cX10_errs 10 = .ok (.putfield 160, 3) := by decide +kernel
theorem dX10_errs_13 : decode cX10_errs 13 = .ok (.aload_n 0, 1) := by decide +kernel
theorem dX10_errs_14 : decode cX10_errs 14 = .ok (.aload_n 0, 1) := by decide +kernel
theorem dX10_errs_15 : decode cX10_errs 15 = .ok (.getfield 136, 3) := by decide +kernel
theorem dX10_errs_18 : decode cX10_errs 18 = .ok (.putfield 27, 3) := by decide +kernel
theorem dX10_errs_21 : decode cX10_errs 21 = .ok (.return_, 1) := by decide +kernel
theorem dX10_expects_0 : decode cX10_expects 0 = .ok (.aload_n 0, 1) := by decide +kernel
theorem dX10_expects_1 : decode cX10_expects 1 = .ok (.aload_n 1, 1) := by decide +kernel
theorem dX10_expects_2 : decode cX10_expects 2 = .ok (.invokevirtual 182, 3) := by decide +kernel
theorem dX10_expects_5 : decode cX10_expects 5 = .ok (.ifCond .ne 8, 3) := by decide +kernel
theorem dX10_expects_8 : decode cX10_expects 8 = .ok (.aload_n 0, 1) := by decide +kernel
theorem dX10_expects_9 : decode cX10_expects 9 = .ok (.iconst 1, 1) := by decide +kernel
theorem dX10_expects_10 : decode cX10_expects 10 = .ok (.invokevirtual 185, 3) := by decide +kernel
theorem dX10_expects_13 : decode cX10_expects 13 = .ok (.return_, 1) := by decide +kernel
theorem dX10_fault_0 : decode cX10_fault 0 = .ok (.iload_n 1, 1) := by decide +kernel
theorem dX10_fault_1 : decode cX10_fault 1 = .ok (.ifCond .ne 10, 3) := by decide +kernel
theorem dX10_fault_4 : decode cX10_fault 4 = .ok (.aload_n 0, 1) := by decide +kernel
theorem dX10_fault_5 : decode cX10_fault 5 = .ok (.getfield 160, 3) := by decide +kernel
theorem dX10_fault_8 : decode cX10_fault 8 = .ok (.goto 16, 3) := by decide +kernel
theorem dX10_fault_11 : decode cX10_fault 11 = .ok (.iload_n 1, 1) := by decide +kernel
theorem dX10_fault_12 : decode cX10_fault 12 = .ok (.iconst 1, 1) := by decide +kernel
theorem dX10_fault_13 : decode cX10_fault 13 = .ok (.if_icmp .ne 10, 3) := by decide +kernel
theorem dX10_fault_16 : decode cX10_fault 16 = .ok (.aload_n 0, 1) := by decide +kernel
theorem dX10_fault_17 : decode cX10_fault 17 = .ok (.getfield 27, 3) := by decide +kernel
theorem dX10_fault_20 : decode cX10_fault 20 = .ok (.goto 4, 3) := by decide +kernel
theorem dX10_fault_23 : decode cX10_fault 23 = .ok (.iconst (-1), 1) := by decide +kernel
theorem dX10_fault_24 : decode cX10_fault 24 = .ok (.ireturn, 1) := by decide +kernel
theorem dX10_feed_0 : decode cX10_feed 0 = .ok (.aload_n 0, 1) := by decide +kernel
theorem dX10_feed_1 : decode cX10_feed 1 = .ok (.getfield 123, 3) := by decide +kernel
theorem dX10_feed_4 : decode cX10_feed 4 = .ok (.bipush 20, 2) := by decide +kernel
theorem dX10_feed_6 : decode cX10_feed 6 = .ok (.iadd, 1) := by decide +kernel
theorem dX10_feed_7 : decode cX10_feed 7 = .ok (.sipush 900, 3) := by decide +kernel
theorem dX10_feed_10 : decode cX10_feed 10 = .ok (.if_icmp .le 5, 3) := by decide +kernel
theorem dX10_feed_13 : decode cX10_feed 13 = .ok (.iconst (-1), 1) := by decide +kernel
theorem dX10_feed_14 : decode cX10_feed 14 = .ok (.ireturn, 1) := by decide +kernel
theorem dX10_feed_15 : decode cX10_feed 15 = .ok (.aload_n 0, 1) := by decide +kernel
theorem dX10_feed_16 : decode cX10_feed 16 = .ok (.getfield 24, 3) := by decide +kernel
theorem dX10_feed_19 : decode cX10_feed 19 = .ok (.iconst 0, 1) := by decide +kernel
theorem dX10_feed_20 : decode cX10_feed 20 = .ok (.iload_n 1, 1) := by decide +kernel
theorem dX10_feed_21 : decode cX10_feed 21 = .ok (.iastore, 1) := by decide +kernel
theorem dX10_feed_22 : decode cX10_feed 22 = .ok (.aload_n 0, 1) := by decide +kernel
theorem dX10_feed_23 : decode cX10_feed 23 = .ok (.getfield 24, 3) := by decide +kernel
theorem dX10_feed_26 : decode cX10_feed 26 = .ok (.iconst 1, 1) := by decide +kernel
theorem dX10_feed_27 : decode cX10_feed 27 = .ok (.iload_n 2, 1) := by decide +kernel
theorem dX10_feed_28 : decode cX10_feed 28 = .ok (.iastore, 1) := by decide +kernel
theorem dX10_feed_29 : decode cX10_feed 29 = .ok (.aload_n 0, 1) := by decide +kernel
theorem dX10_feed_30 : decode cX10_feed 30 = .ok (.getfield 24, 3) := by decide +kernel
theorem dX10_feed_33 : decode cX10_feed 33 = .ok (.iconst 2, 1) := by decide +kernel
theorem dX10_feed_34 : decode cX10_feed 34 = .ok (.iload_n 3, 1) := by decide +kernel
theorem dX10_feed_35 : decode cX10_feed 35 = .ok (.iastore, 1) := by decide +kernel
theorem dX10_feed_36 : decode cX10_feed 36 = .ok (.aload_n 0, 1) := by decide +kernel
theorem dX10_feed_37 : decode cX10_feed 37 = .ok (.getfield 24, 3) := by decide +kernel
theorem dX10_feed_40 : decode cX10_feed 40 = .ok (.iconst 3, 1) := by decide +kernel
theorem dX10_feed_41 : decode cX10_feed 41 = .ok (.iload 4, 2) := by decide +kernel
theorem dX10_feed_43 : decode cX10_feed 43 = .ok (.iastore, 1) := by decide +kernel
theorem dX10_feed_44 : decode cX10_feed 44 = .ok (.aload_n 0, 1) := by decide +kernel
theorem dX10_feed_45 : decode cX10_feed 45 = .ok (.getfield 24, 3) := by decide +kernel
theorem dX10_feed_48 : decode cX10_feed 48 = .ok (.iconst 4, 1) := by decide +kernel
theorem dX10_feed_49 : decode cX10_feed 49 = .ok (.iload 5, 2) := by decide +kernel
theorem dX10_feed_51 : decode cX10_feed 51 = .ok (.iastore, 1) := by decide +kernel
theorem dX10_feed_52 : decode cX10_feed 52 = .ok (.iconst 0, 1) := by decide +kernel
theorem dX10_feed_53 : decode cX10_feed 53 = .ok (.istore 6, 2) := by decide +kernel
theorem dX10_feed_55 : decode cX10_feed 55 = .ok (.iload 6, 2) := by decide +kernel
theorem dX10_feed_57 : decode cX10_feed 57 = .ok (.bipush 20, 2) := by decide +kernel
theorem dX10_feed_59 : decode cX10_feed 59 = .ok (.if_icmp .ge 42, 3) := by decide +kernel
theorem dX10_feed_62 : decode cX10_feed 62 = .ok (.aload_n 0, 1) := by decide +kernel
theorem dX10_feed_63 : decode cX10_feed 63 = .ok (.getfield 20, 3) := by decide +kernel
theorem dX10_feed_66 : decode cX10_feed 66 = .ok (.aload_n 0, 1) := by decide +kernel
theorem dX10_feed_67 : decode cX10_feed 67 = .ok (.getfield 123, 3) := by decide +kernel
theorem dX10_feed_70 : decode cX10_feed 70 = .ok (.iload 6, 2) := by decide +kernel
theorem dX10_feed_72 : decode cX10_feed 72 = .ok (.iadd, 1) := by decide +kernel
theorem dX10_feed_73 : decode cX10_feed 73 = .ok (.aload_n 0, 1) := by decide +kernel
theorem dX10_feed_74 : decode cX10_feed 74 = .ok (.getfield 24, 3) := by decide +kernel
theorem dX10_feed_77 : decode cX10_feed 77 = .ok (.iload 6, 2) := by decide +kernel
theorem dX10_feed_79 : decode cX10_feed 79 = .ok (.iconst 4, 1) := by decide +kernel
theorem dX10_feed_80 : decode cX10_feed 80 = .ok (.idiv, 1) := by decide +kernel
theorem dX10_feed_81 : decode cX10_feed 81 = .ok (.iaload, 1) := by decide +kernel
theorem dX10_feed_82 : decode cX10_feed 82 = .ok (.bipush 24, 2) := by decide +kernel
theorem dX10_feed_84 : decode cX10_feed 84 = .ok (.bipush 8, 2) := by decide +kernel
theorem dX10_feed_86 : decode cX10_feed 86 = .ok (.iload 6, 2) := by decide +kernel
theorem dX10_feed_88 : decode cX10_feed 88 = .ok (.iconst 4, 1) := by decide +kernel
theorem dX10_feed_89 : decode cX10_feed 89 = .ok (.irem, 1) := by decide +kernel
theorem dX10_feed_90 : decode cX10_feed 90 = .ok (.imul, 1) := by decide +kernel
theorem dX10_feed_91 : decode cX10_feed 91 = .ok (.isub, 1) := by decide +kernel
theorem dX10_feed_92 : decode cX10_feed 92 = .ok (.ishr, 1) := by decide +kernel
theorem dX10_feed_93 : decode cX10_feed 93 = .ok (.i2b, 1) := by decide +kernel
theorem dX10_feed_94 : decode cX10_feed 94 = .ok (.bastore, 1) := by decide +kernel
theorem dX10_feed_95 : decode cX10_feed 95 = .ok (.iinc 6 1, 3) := by decide +kernel
theorem dX10_feed_98 : decode cX10_feed 98 = .ok (.goto (-43), 3) := by decide +kernel
theorem dX10_feed_101 : decode cX10_feed 101 = .ok (.aload_n 0, 1) := by decide +kernel
theorem dX10_feed_102 : decode cX10_feed 102 = .ok (.dup, 1) := by decide +kernel
theorem dX10_feed_103 : decode cX10_feed 103 = .ok (.getfield 123, 3) := by decide +kernel
theorem dX10_feed_106 : decode cX10_feed 106 = .ok (.bipush 20, 2) := by decide +kernel
theorem dX10_feed_108 : decode cX10_feed 108 = .ok (.iadd, 1) := by decide +kernel
theorem dX10_feed_109 : decode cX10_feed 109 = .ok (.putfield 123, 3) := by decide +kernel
theorem dX10_feed_112 : decode cX10_feed 112 = .ok (.aload_n 0, 1) := by decide +kernel
theorem dX10_feed_113 : decode cX10_feed 113 = .ok (.getfield 123, 3) := by decide +kernel
theorem dX10_feed_116 : decode cX10_feed 116 = .ok (.ireturn, 1) := by decide +kernel
theorem dX10_good_0 : decode cX10_good 0 = .ok (.aload_n 0, 1) := by decide +kernel
theorem dX10_good_1 : decode cX10_good 1 = .ok (.getfield 160, 3) := by decide +kernel
theorem dX10_good_4 : decode cX10_good 4 = .ok (.ifCond .ne 7, 3) := by decide +kernel
theorem dX10_good_7 : decode cX10_good 7 = .ok (.iconst 1, 1) := by decide +kernel
theorem dX10_good_8 : decode cX10_good 8 = .ok (.goto 4, 3) := by decide +kernel
theorem dX10_good_11 : decode cX10_good 11 = .ok (.iconst 0, 1) := by decide +kernel
theorem dX10_good_12 : decode cX10_good 12 = .ok (.ireturn, 1) := by decide +kernel
theorem dX10_is_0 : decode cX10_is 0 = .ok (.aload_n 0, 1) := by decide +kernel
theorem dX10_is_1 : decode cX10_is 1 = .ok (.invokevirtual 163, 3) := by decide +kernel
theorem dX10_is_4 : decode cX10_is 4 = .ok (.ifCond .eq 31, 3) := by decide +kernel
theorem dX10_is_7 : decode cX10_is 7 = .ok (.aload_n 0, 1) := by decide +kernel
theorem dX10_is_8 : decode cX10_is 8 = .ok (.getfield 139, 3) := by decide +kernel
theorem dX10_is_11 : decode cX10_is 11 = .ok (.iconst 1, 1) := by decide +kernel
theorem dX10_is_12 : decode cX10_is 12 = .ok (.if_icmp .ne 23, 3) := by decide +kernel
theorem dX10_is_15 : decode cX10_is 15 = .ok (.aload_n 0, 1) := by decide +kernel
theorem dX10_is_16 : decode cX10_is 16 = .ok (.getfield 129, 3) := by decide +kernel
theorem dX10_is_19 : decode cX10_is 19 = .ok (.aload_n 0, 1) := by decide +kernel
theorem dX10_is_20 : decode cX10_is 20 = .ok (.getfield 136, 3) := by decide +kernel
theorem dX10_is_23 : decode cX10_is 23 = .ok (.isub, 1) := by decide +kernel
theorem dX10_is_24 : decode cX10_is 24 = .ok (.aload_n 1, 1) := by decide +kernel
theorem dX10_is_25 : decode cX10_is 25 = .ok (.invokevirtual 166, 3) := by decide +kernel
theorem dX10_is_28 : decode cX10_is 28 = .ok (.if_icmp .ne 7, 3) := by decide +kernel
theorem dX10_is_31 : decode cX10_is 31 = .ok (.iconst 1, 1) := by decide +kernel
theorem dX10_is_32 : decode cX10_is 32 = .ok (.goto 4, 3) := by decide +kernel
theorem dX10_is_35 : decode cX10_is 35 = .ok (.iconst 0, 1) := by decide +kernel
theorem dX10_is_36 : decode cX10_is 36 = .ok (.istore_n 2, 1) := by decide +kernel
theorem dX10_is_37 : decode cX10_is 37 = .ok (.iconst 0, 1) := by decide +kernel
theorem dX10_is_38 : decode cX10_is 38 = .ok (.istore_n 3, 1) := by decide +kernel
theorem dX10_is_39 : decode cX10_is 39 = .ok (.iload_n 3, 1) := by decide +kernel
theorem dX10_is_40 : decode cX10_is 40 = .ok (.aload_n 1, 1) := by decide +kernel
theorem dX10_is_41 : decode cX10_is 41 = .ok (.invokevirtual 166, 3) := by decide +kernel
theorem dX10_is_44 : decode cX10_is 44 = .ok (.if_icmp .ge 38, 3) := by decide +kernel
theorem dX10_is_47 : decode cX10_is 47 = .ok (.iload_n 2, 1) := by decide +kernel
theorem dX10_is_48 : decode cX10_is 48 = .ok (.ifCond .eq 34, 3) := by decide +kernel
theorem dX10_is_51 : decode cX10_is 51 = .ok (.aload_n 0, 1) := by decide +kernel
theorem dX10_is_52 : decode cX10_is 52 = .ok (.getfield 20, 3) := by decide +kernel
theorem dX10_is_55 : decode cX10_is 55 = .ok (.aload_n 0, 1) := by decide +kernel
theorem dX10_is_56 : decode cX10_is 56 = .ok (.getfield 136, 3) := by decide +kernel
theorem dX10_is_59 : decode cX10_is 59 = .ok (.iload_n 3, 1) := by decide +kernel
theorem dX10_is_60 : decode cX10_is 60 = .ok (.iadd, 1) := by decide +kernel
theorem dX10_is_61 : decode cX10_is 61 = .ok (.baload, 1) := by decide +kernel
theorem dX10_is_62 : decode cX10_is 62 = .ok (.aload_n 1, 1) := by decide +kernel
theorem dX10_is_63 : decode cX10_is 63 = .ok (.iload_n 3, 1) := by decide +kernel
theorem dX10_is_64 : decode cX10_is 64 = .ok (.invokevirtual 171, 3) := by decide +kernel
theorem dX10_is_67 : decode cX10_is 67 = .ok (.if_icmp .ne 7, 3) := by decide +kernel
theorem dX10_is_70 : decode cX10_is 70 = .ok (.iconst 1, 1) := by decide +kernel
theorem dX10_is_71 : decode cX10_is 71 = .ok (.goto 4, 3) := by decide +kernel
theorem dX10_is_74 : decode cX10_is 74 = .ok (.iconst 0, 1) := by decide +kernel
theorem dX10_is_75 : decode cX10_is 75 = .ok (.istore_n 2, 1) := by decide +kernel
theorem dX10_is_76 : decode cX10_is 76 = .ok (.iinc 3 1, 3) := by decide +kernel
theorem dX10_is_79 : decode cX10_is 79 = .ok (.goto (-40), 3) := by decide +kernel
theorem dX10_is_82 : decode cX10_is 82 = .ok (.iload_n 2, 1) := by decide +kernel
theorem dX10_is_83 : decode cX10_is 83 = .ok (.ireturn, 1) := by decide +kernel
theorem dX10_isTaken_0 : decode cX10_isTaken 0 = .ok (.iconst 0, 1) := by decide +kernel
theorem dX10_isTaken_1 : decode cX10_isTaken 1 = .ok (.istore 4, 2) := by decide +kernel
theorem dX10_isTaken_3 : decode cX10_isTaken 3 = .ok (.iconst 0, 1) := by decide +kernel
theorem dX10_isTaken_4 : decode cX10_isTaken 4 = .ok (.istore 5, 2) := by decide +kernel
theorem dX10_isTaken_6 : decode cX10_isTaken 6 = .ok (.iload 5, 2) := by decide +kernel
theorem dX10_isTaken_8 : decode cX10_isTaken 8 = .ok (.iload_n 3, 1) := by decide +kernel
theorem dX10_isTaken_9 : decode cX10_isTaken 9 = .ok (.if_icmp .ge 34, 3) := by decide +kernel
theorem dX10_isTaken_12 : decode cX10_isTaken 12 = .ok (.iload 4, 2) := by decide +kernel
theorem dX10_isTaken_14 : decode cX10_isTaken 14 = .ok (.ifCond .ne 16, 3) := by decide +kernel
theorem dX10_isTaken_17 : decode cX10_isTaken 17 = .ok (.aload_n 0, 1) := by decide +kernel
theorem dX10_isTaken_18 : decode cX10_isTaken 18 = .ok (.getfield 31, 3) := by decide +kernel
theorem dX10_isTaken_21 : decode cX10_isTaken 21 = .ok (.iload_n 2, 1) := by decide +kernel
theorem dX10_isTaken_22 : decode cX10_isTaken 22 = .ok (.iload 5, 2) := by decide +kernel
theorem dX10_isTaken_24 : decode cX10_isTaken 24 = .ok (.iadd, 1) := by decide +kernel
theorem dX10_isTaken_25 : decode cX10_isTaken 25 = .ok (.iaload, 1) := by decide +kernel
theorem dX10_isTaken_26 : decode cX10_isTaken 26 = .ok (.iload_n 1, 1) := by decide +kernel
theorem dX10_isTaken_27 : decode cX10_isTaken 27 = .ok (.if_icmp .ne 7, 3) := by decide +kernel
theorem dX10_isTaken_30 : decode cX10_isTaken 30 = .ok (.iconst 1, 1) := by decide +kernel
theorem dX10_isTaken_31 : decode cX10_isTaken 31 = .ok (.goto 4, 3) := by decide +kernel
theorem dX10_isTaken_34 : decode cX10_isTaken 34 = .ok (.iconst 0, 1) := by decide +kernel
theorem dX10_isTaken_35 : decode cX10_isTaken 35 = .ok (.istore 4, 2) := by decide +kernel
theorem dX10_isTaken_37 : decode cX10_isTaken 37 = .ok (.iinc 5 1, 3) := by decide +kernel
theorem dX10_isTaken_40 : decode cX10_isTaken 40 = .ok (.goto (-34), 3) := by decide +kernel
theorem dX10_isTaken_43 : decode cX10_isTaken 43 = .ok (.iload 4, 2) := by decide +kernel
theorem dX10_isTaken_45 : decode cX10_isTaken 45 = .ok (.ireturn, 1) := by decide +kernel
theorem dX10_number_0 : decode cX10_number 0 = .ok (.aload_n 0, 1) := by decide +kernel
theorem dX10_number_1 : decode cX10_number 1 = .ok (.invokevirtual 163, 3) := by decide +kernel
theorem dX10_number_4 : decode cX10_number 4 = .ok (.ifCond .eq 16, 3) := by decide +kernel
theorem dX10_number_7 : decode cX10_number 7 = .ok (.aload_n 0, 1) := by decide +kernel
theorem dX10_number_8 : decode cX10_number 8 = .ok (.getfield 139, 3) := by decide +kernel
theorem dX10_number_11 : decode cX10_number 11 = .ok (.iconst 2, 1) := by decide +kernel
theorem dX10_number_12 : decode cX10_number 12 = .ok (.if_icmp .eq 8, 3) := by decide +kernel
theorem dX10_number_15 : decode cX10_number 15 = .ok (.aload_n 0, 1) := by decide +kernel
theorem dX10_number_16 : decode cX10_number 16 = .ok (.iconst 1, 1) := by decide +kernel
theorem dX10_number_17 : decode cX10_number 17 = .ok (.invokevirtual 185, 3) := by decide +kernel
theorem dX10_number_20 : decode cX10_number 20 = .ok (.aload_n 0, 1) := by decide +kernel
theorem dX10_number_21 : decode cX10_number 21 = .ok (.invokevirtual 163, 3) := by decide +kernel
theorem dX10_number_24 : decode cX10_number 24 = .ok (.ifCond .eq 23, 3) := by decide +kernel
theorem dX10_number_27 : decode cX10_number 27 = .ok (.aload_n 0, 1) := by decide +kernel
theorem dX10_number_28 : decode cX10_number 28 = .ok (.getfield 150, 3) := by decide +kernel
theorem dX10_number_31 : decode cX10_number 31 = .ok (.i2l, 1) := by decide +kernel
theorem dX10_number_32 : decode cX10_number 32 = .ok (.iload_n 1, 1) := by decide +kernel
theorem dX10_number_33 : decode cX10_number 33 = .ok (.i2l, 1) := by decide +kernel
theorem dX10_number_34 : decode cX10_number 34 = .ok (.iload_n 2, 1) := by decide +kernel
theorem dX10_number_35 : decode cX10_number 35 = .ok (.i2l, 1) := by decide +kernel
theorem dX10_number_36 : decode cX10_number 36 = .ok (.invokestatic 106, 3) := by decide +kernel
theorem dX10_number_39 : decode cX10_number 39 = .ok (.ifCond .ne 8, 3) := by decide +kernel
theorem dX10_number_42 : decode cX10_number 42 = .ok (.aload_n 0, 1) := by decide +kernel
theorem dX10_number_43 : decode cX10_number 43 = .ok (.iconst 2, 1) := by decide +kernel
theorem dX10_number_44 : decode cX10_number 44 = .ok (.invokevirtual 185, 3) := by decide +kernel
theorem dX10_number_47 : decode cX10_number 47 = .ok (.aload_n 0, 1) := by decide +kernel
theorem dX10_number_48 : decode cX10_number 48 = .ok (.invokevirtual 163, 3) := by decide +kernel
theorem dX10_number_51 : decode cX10_number 51 = .ok (.ifCond .ne 5, 3) := by decide +kernel
theorem dX10_number_54 : decode cX10_number 54 = .ok (.iconst 0, 1) := by decide +kernel
theorem dX10_number_55 : decode cX10_number 55 = .ok (.ireturn, 1) := by decide +kernel
theorem dX10_number_56 : decode cX10_number 56 = .ok (.aload_n 0, 1) := by decide +kernel
theorem dX10_number_57 : decode cX10_number 57 = .ok (.getfield 150, 3) := by decide +kernel
theorem dX10_number_60 : decode cX10_number 60 = .ok (.istore_n 3, 1) := by decide +kernel
theorem dX10_number_61 : decode cX10_number 61 = .ok (.aload_n 0, 1) := by decide +kernel
theorem dX10_number_62 : decode cX10_number 62 = .ok (.invokevirtual 179, 3) := by decide +kernel
theorem dX10_number_65 : decode cX10_number 65 = .ok (.iload_n 3, 1) := by decide +kernel
theorem dX10_number_66 : decode cX10_number 66 = .ok (.ireturn, 1) := by decide +kernel
theorem dX10_readCell_0 : decode cX10_readCell 0 = .ok (.aload_n 0, 1) := by decide +kernel
theorem dX10_readCell_1 : decode cX10_readCell 1 = .ok (.iconst 0, 1) := by decide +kernel
theorem dX10_readCell_2 : decode cX10_readCell 2 = .ok (.aload_n 0, 1) := by decide +kernel
theorem dX10_readCell_3 : decode cX10_readCell 3 = .ok (.getfield 31, 3) := by decide +kernel
theorem dX10_readCell_6 : decode cX10_readCell 6 = .ok (.iconst 3, 1) := by decide +kernel
theorem dX10_readCell_7 : decode cX10_readCell 7 = .ok (.iaload, 1) := by decide +kernel
theorem dX10_readCell_8 : decode cX10_readCell 8 = .ok (.iconst 1, 1) := by decide +kernel
theorem dX10_readCell_9 : decode cX10_readCell 9 = .ok (.isub, 1) := by decide +kernel
theorem dX10_readCell_10 : decode cX10_readCell 10 = .ok (.invokevirtual 193, 3) := by decide +kernel
theorem dX10_readCell_13 : decode cX10_readCell 13 = .ok (.istore_n 2, 1) := by decide +kernel
theorem dX10_readCell_14 : decode cX10_readCell 14 = .ok (.aload_n 0, 1) := by decide +kernel
theorem dX10_readCell_15 : decode cX10_readCell 15 = .ok (.invokevirtual 163, 3) := by decide +kernel
theorem dX10_readCell_18 : decode cX10_readCell 18 = .ok (.ifCond .eq 84, 3) := by decide +kernel
theorem dX10_readCell_21 : decode cX10_readCell 21 = .ok (.aload_n 0, 1) := by decide +kernel
theorem dX10_readCell_22 : decode cX10_readCell 22 = .ok (.getfield 139, 3) := by decide +kernel
theorem dX10_readCell_25 : decode cX10_readCell 25 = .ok (.iconst 2, 1) := by decide +kernel
theorem dX10_readCell_26 : decode cX10_readCell 26 = .ok (.if_icmp .ne 76, 3) := by decide +kernel
theorem dX10_readCell_29 : decode cX10_readCell 29 = .ok (.aload_n 0, 1) := by decide +kernel
theorem dX10_readCell_30 : decode cX10_readCell 30 = .ok (.getfield 150, 3) := by decide +kernel
theorem dX10_readCell_33 : decode cX10_readCell 33 = .ok (.i2l, 1) := by decide +kernel
theorem dX10_readCell_34 : decode cX10_readCell 34 = .ok (.lconst 0, 1) := by decide +kernel
theorem dX10_readCell_35 : decode cX10_readCell 35 = .ok (.aload_n 0, 1) := by decide +kernel
theorem dX10_readCell_36 : decode cX10_readCell 36 = .ok (.getfield 31, 3) := by decide +kernel
theorem dX10_readCell_39 : decode cX10_readCell 39 = .ok (.iconst 4, 1) := by decide +kernel
theorem dX10_readCell_40 : decode cX10_readCell 40 = .ok (.iaload, 1) := by decide +kernel
theorem dX10_readCell_41 : decode cX10_readCell 41 = .ok (.iconst 1, 1) := by decide +kernel
theorem dX10_readCell_42 : decode cX10_readCell 42 = .ok (.isub, 1) := by decide +kernel
theorem dX10_readCell_43 : decode cX10_readCell 43 = .ok (.i2l, 1) := by decide +kernel
theorem dX10_readCell_44 : decode cX10_readCell 44 = .ok (.invokestatic 106, 3) := by decide +kernel
theorem dX10_readCell_47 : decode cX10_readCell 47 = .ok (.ifCond .eq 55, 3) := by decide +kernel
theorem dX10_readCell_50 : decode cX10_readCell 50 = .ok (.bipush 10, 2) := by decide +kernel
theorem dX10_readCell_52 : decode cX10_readCell 52 = .ok (.iload_n 2, 1) := by decide +kernel
theorem dX10_readCell_53 : decode cX10_readCell 53 = .ok (.imul, 1) := by decide +kernel
theorem dX10_readCell_54 : decode cX10_readCell 54 = .ok (.aload_n 0, 1) := by decide +kernel
theorem dX10_readCell_55 : decode cX10_readCell 55 = .ok (.getfield 150, 3) := by decide +kernel
theorem dX10_readCell_58 : decode cX10_readCell 58 = .ok (.iadd, 1) := by decide +kernel
theorem dX10_readCell_59 : decode cX10_readCell 59 = .ok (.istore_n 3, 1) := by decide +kernel
theorem dX10_readCell_60 : decode cX10_readCell 60 = .ok (.aload_n 0, 1) := by decide +kernel
theorem dX10_readCell_61 : decode cX10_readCell 61 = .ok (.iload_n 3, 1) := by decide +kernel
theorem dX10_readCell_62 : decode cX10_readCell 62 = .ok (.bipush 10, 2) := by decide +kernel
theorem dX10_readCell_64 : decode cX10_readCell 64 = .ok (.aload_n 0, 1) := by decide +kernel
theorem dX10_readCell_65 : decode cX10_readCell 65 = .ok (.getfield 31, 3) := by decide +kernel
theorem dX10_readCell_68 : decode cX10_readCell 68 = .ok (.iconst 5, 1) := by decide +kernel
theorem dX10_readCell_69 : decode cX10_readCell 69 = .ok (.iaload, 1) := by decide +kernel
theorem dX10_readCell_70 : decode cX10_readCell 70 = .ok (.invokevirtual 211, 3) := by decide +kernel
theorem dX10_readCell_73 : decode cX10_readCell 73 = .ok (.ifCond .ne 24, 3) := by decide +kernel
theorem dX10_readCell_76 : decode cX10_readCell 76 = .ok (.iload_n 1, 1) := by decide +kernel
theorem dX10_readCell_77 : decode cX10_readCell 77 = .ok (.ifCond .eq 25, 3) := by decide +kernel
theorem dX10_readCell_80 : decode cX10_readCell 80 = .ok (.aload_n 0, 1) := by decide +kernel
theorem dX10_readCell_81 : decode cX10_readCell 81 = .ok (.iload_n 3, 1) := by decide +kernel
theorem dX10_readCell_82 : decode cX10_readCell 82 = .ok (.bipush 22, 2) := by decide +kernel
theorem dX10_readCell_84 : decode cX10_readCell 84 = .ok (.aload_n 0, 1) := by decide +kernel
theorem dX10_readCell_85 : decode cX10_readCell 85 = .ok (.getfield 31, 3) := by decide +kernel
theorem dX10_readCell_88 : decode cX10_readCell 88 = .ok (.bipush 6, 2) := by decide +kernel
theorem dX10_readCell_90 : decode cX10_readCell 90 = .ok (.iaload, 1) := by decide +kernel
theorem dX10_readCell_91 : decode cX10_readCell 91 = .ok (.invokevirtual 211, 3) := by decide +kernel
theorem dX10_readCell_94 : decode cX10_readCell 94 = .ok (.ifCond .eq 8, 3) := by decide +kernel
theorem dX10_readCell_97 : decode cX10_readCell 97 = .ok (.aload_n 0, 1) := by decide +kernel
theorem dX10_readCell_98 : decode cX10_readCell 98 = .ok (.iconst 2, 1) := by decide +kernel
theorem dX10_readCell_99 : decode cX10_readCell 99 = .ok (.invokevirtual 185, 3) := by decide +kernel
theorem dX10_readCell_102 : decode cX10_readCell 102 = .ok (.bipush 10, 2) := by decide +kernel
theorem dX10_readCell_104 : decode cX10_readCell 104 = .ok (.iload_n 2, 1) := by decide +kernel
theorem dX10_readCell_105 : decode cX10_readCell 105 = .ok (.imul, 1) := by decide +kernel
theorem dX10_readCell_106 : decode cX10_readCell 106 = .ok (.aload_n 0, 1) := by decide +kernel
theorem dX10_readCell_107 : decode cX10_readCell 107 = .ok (.iconst 0, 1) := by decide +kernel
theorem dX10_readCell_108 : decode cX10_readCell 108 = .ok (.aload_n 0, 1) := by decide +kernel
theorem dX10_readCell_109 : decode cX10_readCell 109 = .ok (.getfield 31, 3) := by decide +kernel
theorem dX10_readCell_112 : decode cX10_readCell 112 = .ok (.iconst 4, 1) := by decide +kernel
theorem dX10_readCell_113 : decode cX10_readCell 113 = .ok (.iaload, 1) := by decide +kernel
theorem dX10_readCell_114 : decode cX10_readCell 114 = .ok (.iconst 1, 1) := by decide +kernel
theorem dX10_readCell_115 : decode cX10_readCell 115 = .ok (.isub, 1) := by decide +kernel
theorem dX10_readCell_116 : decode cX10_readCell 116 = .ok (.invokevirtual 193, 3) := by decide +kernel
theorem dX10_readCell_119 : decode cX10_readCell 119 = .ok (.iadd, 1) := by decide +kernel
theorem dX10_readCell_120 : decode cX10_readCell 120 = .ok (.ireturn, 1) := by decide +kernel
theorem dX10_readFirst_0 : decode cX10_readFirst 0 = .ok (.aload_n 0, 1) := by decide +kernel
theorem dX10_readFirst_1 : decode cX10_readFirst 1 = .ok (.ldc 196, 2) := by decide +kernel
theorem dX10_readFirst_3 : decode cX10_readFirst 3 = .ok (.invokevirtual 189, 3) := by decide +kernel
theorem dX10_readFirst_6 : decode cX10_readFirst 6 = .ok (.aload_n 0, 1) := by decide +kernel
theorem dX10_readFirst_7 : decode cX10_readFirst 7 = .ok (.getfield 31, 3) := by decide +kernel
theorem dX10_readFirst_10 : decode cX10_readFirst 10 = .ok (.iconst 0, 1) := by decide +kernel
theorem dX10_readFirst_11 : decode cX10_readFirst 11 = .ok (.aload_n 0, 1) := by decide +kernel
theorem dX10_readFirst_12 : decode cX10_readFirst 12 = .ok (.ldc 198, 2) := by decide +kernel
theorem dX10_readFirst_14 : decode cX10_readFirst 14 = .ok (.iconst 1, 1) := by decide +kernel
theorem dX10_readFirst_15 : decode cX10_readFirst 15 = .ok (.bipush 12, 2) := by decide +kernel
theorem dX10_readFirst_17 : decode cX10_readFirst 17 = .ok (.invokevirtual 199, 3) := by decide +kernel
theorem dX10_readFirst_20 : decode cX10_readFirst 20 = .ok (.iastore, 1) := by decide +kernel
theorem dX10_readFirst_21 : decode cX10_readFirst 21 = .ok (.aload_n 0, 1) := by decide +kernel
theorem dX10_readFirst_22 : decode cX10_readFirst 22 = .ok (.getfield 31, 3) := by decide +kernel
theorem dX10_readFirst_25 : decode cX10_readFirst 25 = .ok (.iconst 1, 1) := by decide +kernel
theorem dX10_readFirst_26 : decode cX10_readFirst 26 = .ok (.aload_n 0, 1) := by decide +kernel
theorem dX10_readFirst_27 : decode cX10_readFirst 27 = .ok (.ldc 203, 2) := by decide +kernel
theorem dX10_readFirst_29 : decode cX10_readFirst 29 = .ok (.iconst 0, 1) := by decide +kernel
theorem dX10_readFirst_30 : decode cX10_readFirst 30 = .ok (.iconst 3, 1) := by decide +kernel
theorem dX10_readFirst_31 : decode cX10_readFirst 31 = .ok (.invokevirtual 199, 3) := by decide +kernel
theorem dX10_readFirst_34 : decode cX10_readFirst 34 = .ok (.iastore, 1) := by decide +kernel
theorem dX10_readFirst_35 : decode cX10_readFirst 35 = .ok (.aload_n 0, 1) := by decide +kernel
theorem dX10_readFirst_36 : decode cX10_readFirst 36 = .ok (.getfield 31, 3) := by decide +kernel
theorem dX10_readFirst_39 : decode cX10_readFirst 39 = .ok (.iconst 2, 1) := by decide +kernel
theorem dX10_readFirst_40 : decode cX10_readFirst 40 = .ok (.aload_n 0, 1) := by decide +kernel
theorem dX10_readFirst_41 : decode cX10_readFirst 41 = .ok (.ldc 205, 2) := by decide +kernel
theorem dX10_readFirst_43 : decode cX10_readFirst 43 = .ok (.iconst 0, 1) := by decide +kernel
theorem dX10_readFirst_44 : decode cX10_readFirst 44 = .ok (.bipush 10, 2) := by decide +kernel
theorem dX10_readFirst_46 : decode cX10_readFirst 46 = .ok (.invokevirtual 199, 3) := by decide +kernel
theorem dX10_readFirst_49 : decode cX10_readFirst 49 = .ok (.iastore, 1) := by decide +kernel
theorem dX10_readFirst_50 : decode cX10_readFirst 50 = .ok (.aload_n 0, 1) := by decide +kernel
theorem dX10_readFirst_51 : decode cX10_readFirst 51 = .ok (.getfield 31, 3) := by decide +kernel
theorem dX10_readFirst_54 : decode cX10_readFirst 54 = .ok (.iconst 3, 1) := by decide +kernel
theorem dX10_readFirst_55 : decode cX10_readFirst 55 = .ok (.aload_n 0, 1) := by decide +kernel
theorem dX10_readFirst_56 : decode cX10_readFirst 56 = .ok (.ldc 207, 2) := by decide +kernel
theorem dX10_readFirst_58 : decode cX10_readFirst 58 = .ok (.iconst 2, 1) := by decide +kernel
theorem dX10_readFirst_59 : decode cX10_readFirst 59 = .ok (.bipush 8, 2) := by decide +kernel
theorem dX10_readFirst_61 : decode cX10_readFirst 61 = .ok (.invokevirtual 199, 3) := by decide +kernel
theorem dX10_readFirst_64 : decode cX10_readFirst 64 = .ok (.iastore, 1) := by decide +kernel
theorem dX10_readFirst_65 : decode cX10_readFirst 65 = .ok (.aload_n 0, 1) := by decide +kernel
theorem dX10_readFirst_66 : decode cX10_readFirst 66 = .ok (.getfield 31, 3) := by decide +kernel
theorem dX10_readFirst_69 : decode cX10_readFirst 69 = .ok (.iconst 4, 1) := by decide +kernel
theorem dX10_readFirst_70 : decode cX10_readFirst 70 = .ok (.aload_n 0, 1) := by decide +kernel
theorem dX10_readFirst_71 : decode cX10_readFirst 71 = .ok (.ldc 209, 2) := by decide +kernel
theorem dX10_readFirst_73 : decode cX10_readFirst 73 = .ok (.iconst 2, 1) := by decide +kernel
theorem dX10_readFirst_74 : decode cX10_readFirst 74 = .ok (.bipush 8, 2) := by decide +kernel
theorem dX10_readFirst_76 : decode cX10_readFirst 76 = .ok (.invokevirtual 199, 3) := by decide +kernel
theorem dX10_readFirst_79 : decode cX10_readFirst 79 = .ok (.iastore, 1) := by decide +kernel
theorem dX10_readFirst_80 : decode cX10_readFirst 80 = .ok (.return_, 1) := by decide +kernel
theorem dX10_see_0 : decode cX10_see 0 = .ok (.iload_n 1, 1) := by decide +kernel
theorem dX10_see_1 : decode cX10_see 1 = .ok (.aload_n 0, 1) := by decide +kernel
theorem dX10_see_2 : decode cX10_see 2 = .ok (.getfield 126, 3) := by decide +kernel
theorem dX10_see_5 : decode cX10_see 5 = .ok (.if_icmp .ge 16, 3) := by decide +kernel
theorem dX10_see_8 : decode cX10_see 8 = .ok (.aload_n 0, 1) := by decide +kernel
theorem dX10_see_9 : decode cX10_see 9 = .ok (.getfield 20, 3) := by decide +kernel
theorem dX10_see_12 : decode cX10_see 12 = .ok (.iload_n 1, 1) := by decide +kernel
theorem dX10_see_13 : decode cX10_see 13 = .ok (.baload, 1) := by decide +kernel
theorem dX10_see_14 : decode cX10_see 14 = .ok (.sipush 255, 3) := by decide +kernel
theorem dX10_see_17 : decode cX10_see 17 = .ok (.iand, 1) := by decide +kernel
theorem dX10_see_18 : decode cX10_see 18 = .ok (.goto 4, 3) := by decide +kernel
theorem dX10_see_21 : decode cX10_see 21 = .ok (.iconst (-1), 1) := by decide +kernel
theorem dX10_see_22 : decode cX10_see 22 = .ok (.ireturn, 1) := by decide +kernel
theorem dX10_takes_0 : decode cX10_takes 0 = .ok (.aload_n 0, 1) := by decide +kernel
theorem dX10_takes_1 : decode cX10_takes 1 = .ok (.aload_n 1, 1) := by decide +kernel
theorem dX10_takes_2 : decode cX10_takes 2 = .ok (.invokevirtual 175, 3) := by decide +kernel
theorem dX10_takes_5 : decode cX10_takes 5 = .ok (.istore_n 2, 1) := by decide +kernel
theorem dX10_takes_6 : decode cX10_takes 6 = .ok (.iload_n 2, 1) := by decide +kernel
theorem dX10_takes_7 : decode cX10_takes 7 = .ok (.ifCond .eq 7, 3) := by decide +kernel
theorem dX10_takes_10 : decode cX10_takes 10 = .ok (.aload_n 0, 1) := by decide +kernel
theorem dX10_takes_11 : decode cX10_takes 11 = .ok (.invokevirtual 179, 3) := by decide +kernel
theorem dX10_takes_14 : decode cX10_takes 14 = .ok (.iload_n 2, 1) := by decide +kernel
theorem dX10_takes_15 : decode cX10_takes 15 = .ok (.ireturn, 1) := by decide +kernel
theorem dX10_toldBy_0 : decode cX10_toldBy 0 = .ok (.aload_n 0, 1) := by decide +kernel
theorem dX10_toldBy_1 : decode cX10_toldBy 1 = .ok (.aload_n 1, 1) := by decide +kernel
theorem dX10_toldBy_2 : decode cX10_toldBy 2 = .ok (.invokevirtual 189, 3) := by decide +kernel
theorem dX10_toldBy_5 : decode cX10_toldBy 5 = .ok (.aload_n 0, 1) := by decide +kernel
theorem dX10_toldBy_6 : decode cX10_toldBy 6 = .ok (.iload_n 2, 1) := by decide +kernel
theorem dX10_toldBy_7 : decode cX10_toldBy 7 = .ok (.iload_n 3, 1) := by decide +kernel
theorem dX10_toldBy_8 : decode cX10_toldBy 8 = .ok (.invokevirtual 193, 3) := by decide +kernel
theorem dX10_toldBy_11 : decode cX10_toldBy 11 = .ok (.ireturn, 1) := by decide +kernel
theorem dX10_turnWord_0 : decode cX10_turnWord 0 = .ok (.aload_n 0, 1) := by decide +kernel
theorem dX10_turnWord_1 : decode cX10_turnWord 1 = .ok (.ldc 215, 2) := by decide +kernel
theorem dX10_turnWord_3 : decode cX10_turnWord 3 = .ok (.invokevirtual 175, 3) := by decide +kernel
theorem dX10_turnWord_6 : decode cX10_turnWord 6 = .ok (.ifCond .eq 7, 3) := by decide +kernel
theorem dX10_turnWord_9 : decode cX10_turnWord 9 = .ok (.iconst 0, 1) := by decide +kernel
theorem dX10_turnWord_10 : decode cX10_turnWord 10 = .ok (.goto 43, 3) := by decide +kernel
theorem dX10_turnWord_13 : decode cX10_turnWord 13 = .ok (.aload_n 0, 1) := by decide +kernel
theorem dX10_turnWord_14 : decode cX10_turnWord 14 = .ok (.ldc 217, 2) := by decide +kernel
theorem dX10_turnWord_16 : decode cX10_turnWord 16 = .ok (.invokevirtual 175, 3) := by decide +kernel
theorem dX10_turnWord_19 : decode cX10_turnWord 19 = .ok (.ifCond .eq 7, 3) := by decide +kernel
theorem dX10_turnWord_22 : decode cX10_turnWord 22 = .ok (.iconst 1, 1) := by decide +kernel
theorem dX10_turnWord_23 : decode cX10_turnWord 23 = .ok (.goto 30, 3) := by decide +kernel
theorem dX10_turnWord_26 : decode cX10_turnWord 26 = .ok (.aload_n 0, 1) := by decide +kernel
theorem dX10_turnWord_27 : decode cX10_turnWord 27 = .ok (.ldc 219, 2) := by decide +kernel
theorem dX10_turnWord_29 : decode cX10_turnWord 29 = .ok (.invokevirtual 175, 3) := by decide +kernel
theorem dX10_turnWord_32 : decode cX10_turnWord 32 = .ok (.ifCond .eq 7, 3) := by decide +kernel
theorem dX10_turnWord_35 : decode cX10_turnWord 35 = .ok (.iconst 2, 1) := by decide +kernel
theorem dX10_turnWord_36 : decode cX10_turnWord 36 = .ok (.goto 17, 3) := by decide +kernel
theorem dX10_turnWord_39 : decode cX10_turnWord 39 = .ok (.aload_n 0, 1) := by decide +kernel
theorem dX10_turnWord_40 : decode cX10_turnWord 40 = .ok (.ldc 221, 2) := by decide +kernel
theorem dX10_turnWord_42 : decode cX10_turnWord 42 = .ok (.invokevirtual 175, 3) := by decide +kernel
theorem dX10_turnWord_45 : decode cX10_turnWord 45 = .ok (.ifCond .eq 7, 3) := by decide +kernel
theorem dX10_turnWord_48 : decode cX10_turnWord 48 = .ok (.iconst 3, 1) := by decide +kernel
theorem dX10_turnWord_49 : decode cX10_turnWord 49 = .ok (.goto 4, 3) := by decide +kernel
theorem dX10_turnWord_52 : decode cX10_turnWord 52 = .ok (.iconst (-1), 1) := by decide +kernel
theorem dX10_turnWord_53 : decode cX10_turnWord 53 = .ok (.ireturn, 1) := by decide +kernel
set_option maxHeartbeats 4000000 in
set_option maxRecDepth 100000 in
theorem f_X10_feed (l : Launch) (G : va_G) (cI cJ cZ cB cQ : ClassId) (sz : Nat) (h0 : Nat) (p0 : Int32) (a0 : Int) (p1 : Int32) (a1 : Int) (p2 : Int32) (a2 : Int) (p3 : Int32) (a3 : Int) (p4 : Int32) (a4 : Int) (b : Nat → Nat) (o_thrown : Int32) (o_taped : Int32) (o_size : Int32) (o_at : Int32) (o_from : Int32) (o_token : Int32) (o_value : Int32) (o_faultKind : Int32) (o_faultPlace : Int32) (o_lawNow : Int32) (o_walkSet : Int32) (o_oneWidow : Int32) (o_oneTurn : Int32) (o_askWorst : Int32) (o_mayWalk : Int32) (o_oftenAll : Int64) (o_oftenRoad : Int64) (o_oftenPegs : Int64) (o_f4 : Nat → Int32) (o_f6 : Nat → Int32) (hp0 : p0.toInt = a0) (hp1 : p1.toInt = a1) (hp2 : p2.toInt = a2) (hp3 : p3.toInt = a3) (hp4 : p4.toInt = a4) (hl_o_taped : 0 ≤ o_taped.toInt) (hh_o_taped : o_taped.toInt ≤ 900) (hl_o_size : 0 ≤ o_size.toInt) (hh_o_size : o_size.toInt ≤ 900) (hl_o_at : 0 ≤ o_at.toInt) (hh_o_at : o_at.toInt ≤ 900) (hl_o_from : 0 ≤ o_from.toInt) (hh_o_from : o_from.toInt ≤ 900) (hl_o_oneTurn : 0 ≤ o_oneTurn.toInt) (hh_o_oneTurn : o_oneTurn.toInt ≤ 4) : CI l yX10_feed (wl_ yX10_feed cX10_feed 7 (some .int)) ({ frames := 0, cells := 0, slots := 0, locals := 0 } : Room) G (TY cI cJ cZ cB cQ) [.ref h0, .int p0, .int p1, .int p2, .int p3, .int p4] [(h0, oX10 b o_thrown o_taped o_size o_at o_from o_token o_value o_faultKind o_faultPlace o_lawNow o_walkSet o_oneWidow o_oneTurn o_askWorst o_mayWalk o_oftenAll o_oftenRoad o_oftenPegs), (b 4, .inl (cB, 900, .inl o_f4)), (b 6, .inl (cI, 5, .inl o_f6))] sz (fun (r : Int32) (u : Int32 × (Nat → Int32) × (Nat → Int32)) => 0 ≤ u.1.toInt ∧ u.1.toInt ≤ 900) (fun u : Int32 × (Nat → Int32) × (Nat → Int32) => [(h0, oX10 b o_thrown u.1 o_size o_at o_from o_token o_value o_faultKind o_faultPlace o_lawNow o_walkSet o_oneWidow o_oneTurn o_askWorst o_mayWalk o_oftenAll o_oftenRoad o_oftenPegs), (b 4, .inl (cB, 900, .inl u.2.1)), (b 6, .inl (cI, 5, .inl u.2.2))]) 0 0 := by
  refine CI.go (cc := cX10_feed) (maxL := 7) (ret := (some .int)) (by decide) rfl (Nat.le_of_ble_eq_true rfl) ?_
  intro p e s m below meth c A ls Q hBd hret
  obtain ⟨hx, hb, hr, hml, hts, hown, hlk, hnm, hP, hK, hD, hA, hZ, hl⟩ := hBd
  have hown : s.vm.findClass RX10 = some m.cls := hown
  have hl : lv_has ls 7 [(0, .ref h0), (1, .int p0), (2, .int p1), (3, .int p2), (4, .int p3), (5, .int p4)] := hl
  have hS : va_S A s.heap s.heap [] := va_S.rf
  refine lv_aload_n hx hb dX10_feed_0 rfl (lv_at hl 0 rfl) ?_
  refine va_get (D := G) (ci := 10) (v := .int o_taped) (C := RX10) (T := TX10) (N := 46) hx hb hts iG_X10 hown hK hP 0 rfl rfl 5 (by decide) (hts _ w_1197) (fun _ h9 => h9) rfl dX10_feed_1 ?_
  refine lv_bipush (v := 20) hx hb dX10_feed_4 (by decide) ?_
  refine lv_iadd hx hb dX10_feed_6 ?_
  refine lv_topi (fun v1 ev1 => ?_)
  have tv1 : v1.toInt = o_taped.toInt + 20 := ti_add rfl ki_20 ev1 (by omega) (by omega)
  refine lv_sipush (v := 900) hx hb dX10_feed_7 (by decide) ?_
  refine lv_icmp_le (tgt := 15) hx hb dX10_feed_10 (by decide) (fun c2 => ?_) (fun c2 => ?_)
  · have c2 := i_le tv1 ki_900 c2
    refine lv_aload_n hx hb dX10_feed_15 rfl (lv_at hl 0 rfl) ?_
    refine va_get (D := G) (ci := 10) (v := .ref (b 6)) (C := RX10) (T := TX10) (N := 46) hx hb hts iG_X10 hown hK hP 0 rfl rfl 6 (by decide) (hts _ w_1198) (fun _ h9 => h9) rfl dX10_feed_16 ?_
    refine lv_iconst (v := 0) hx hb dX10_feed_19 (by decide) ?_
    refine lv_iload_n hx hb dX10_feed_20 rfl (lv_at hl 1 rfl) ?_
    refine va_iast hx hb hK hP hD hS 2 0 rfl rfl (ix_in ki_0 (by omega) (by omega)) dX10_feed_21 (fun H locs hP hD hS => ?_)
    obtain ⟨f3, qf3⟩ : ∃ g, g = upd o_f6 (0 : Int32).toNatClampNeg p0 := ⟨_, rfl⟩
    rw [← qf3] at hP hD
    have hP : va_P G vwCl [(h0, oX10 b o_thrown o_taped o_size o_at o_from o_token o_value o_faultKind o_faultPlace o_lawNow o_walkSet o_oneWidow o_oneTurn o_askWorst o_mayWalk o_oftenAll o_oftenRoad o_oftenPegs), (b 4, .inl (cB, 900, .inl o_f4)), (b 6, .inl (cI, 5, .inl f3))] H := hP
    have hD : va_D A [(h0, oX10 b o_thrown o_taped o_size o_at o_from o_token o_value o_faultKind o_faultPlace o_lawNow o_walkSet o_oneWidow o_oneTurn o_askWorst o_mayWalk o_oftenAll o_oftenRoad o_oftenPegs), (b 4, .inl (cB, 900, .inl o_f4)), (b 6, .inl (cI, 5, .inl f3))] := hD
    refine lv_aload_n hx hb dX10_feed_22 rfl (lv_at hl 0 rfl) ?_
    refine va_get (D := G) (ci := 10) (v := .ref (b 6)) (C := RX10) (T := TX10) (N := 46) hx hb hts iG_X10 hown hK hP 0 rfl rfl 6 (by decide) (hts _ w_1198) (fun _ h9 => h9) rfl dX10_feed_23 ?_
    refine lv_iconst (v := 1) hx hb dX10_feed_26 (by decide) ?_
    refine lv_iload_n hx hb dX10_feed_27 rfl (lv_at hl 2 rfl) ?_
    refine va_iast hx hb hK hP hD hS 2 0 rfl rfl (ix_in ki_1 (by omega) (by omega)) dX10_feed_28 (fun H locs hP hD hS => ?_)
    obtain ⟨f4, qf4⟩ : ∃ g, g = upd f3 (1 : Int32).toNatClampNeg p1 := ⟨_, rfl⟩
    rw [← qf4] at hP hD
    have hP : va_P G vwCl [(h0, oX10 b o_thrown o_taped o_size o_at o_from o_token o_value o_faultKind o_faultPlace o_lawNow o_walkSet o_oneWidow o_oneTurn o_askWorst o_mayWalk o_oftenAll o_oftenRoad o_oftenPegs), (b 4, .inl (cB, 900, .inl o_f4)), (b 6, .inl (cI, 5, .inl f4))] H := hP
    have hD : va_D A [(h0, oX10 b o_thrown o_taped o_size o_at o_from o_token o_value o_faultKind o_faultPlace o_lawNow o_walkSet o_oneWidow o_oneTurn o_askWorst o_mayWalk o_oftenAll o_oftenRoad o_oftenPegs), (b 4, .inl (cB, 900, .inl o_f4)), (b 6, .inl (cI, 5, .inl f4))] := hD
    refine lv_aload_n hx hb dX10_feed_29 rfl (lv_at hl 0 rfl) ?_
    refine va_get (D := G) (ci := 10) (v := .ref (b 6)) (C := RX10) (T := TX10) (N := 46) hx hb hts iG_X10 hown hK hP 0 rfl rfl 6 (by decide) (hts _ w_1198) (fun _ h9 => h9) rfl dX10_feed_30 ?_
    refine lv_iconst (v := 2) hx hb dX10_feed_33 (by decide) ?_
    refine lv_iload_n hx hb dX10_feed_34 rfl (lv_at hl 3 rfl) ?_
    refine va_iast hx hb hK hP hD hS 2 0 rfl rfl (ix_in ki_2 (by omega) (by omega)) dX10_feed_35 (fun H locs hP hD hS => ?_)
    obtain ⟨f5, qf5⟩ : ∃ g, g = upd f4 (2 : Int32).toNatClampNeg p2 := ⟨_, rfl⟩
    rw [← qf5] at hP hD
    have hP : va_P G vwCl [(h0, oX10 b o_thrown o_taped o_size o_at o_from o_token o_value o_faultKind o_faultPlace o_lawNow o_walkSet o_oneWidow o_oneTurn o_askWorst o_mayWalk o_oftenAll o_oftenRoad o_oftenPegs), (b 4, .inl (cB, 900, .inl o_f4)), (b 6, .inl (cI, 5, .inl f5))] H := hP
    have hD : va_D A [(h0, oX10 b o_thrown o_taped o_size o_at o_from o_token o_value o_faultKind o_faultPlace o_lawNow o_walkSet o_oneWidow o_oneTurn o_askWorst o_mayWalk o_oftenAll o_oftenRoad o_oftenPegs), (b 4, .inl (cB, 900, .inl o_f4)), (b 6, .inl (cI, 5, .inl f5))] := hD
    refine lv_aload_n hx hb dX10_feed_36 rfl (lv_at hl 0 rfl) ?_
    refine va_get (D := G) (ci := 10) (v := .ref (b 6)) (C := RX10) (T := TX10) (N := 46) hx hb hts iG_X10 hown hK hP 0 rfl rfl 6 (by decide) (hts _ w_1198) (fun _ h9 => h9) rfl dX10_feed_37 ?_
    refine lv_iconst (v := 3) hx hb dX10_feed_40 (by decide) ?_
    refine lv_iload hx hb dX10_feed_41 (lv_at hl 4 rfl) ?_
    refine va_iast hx hb hK hP hD hS 2 0 rfl rfl (ix_in ki_3 (by omega) (by omega)) dX10_feed_43 (fun H locs hP hD hS => ?_)
    obtain ⟨f6, qf6⟩ : ∃ g, g = upd f5 (3 : Int32).toNatClampNeg p3 := ⟨_, rfl⟩
    rw [← qf6] at hP hD
    have hP : va_P G vwCl [(h0, oX10 b o_thrown o_taped o_size o_at o_from o_token o_value o_faultKind o_faultPlace o_lawNow o_walkSet o_oneWidow o_oneTurn o_askWorst o_mayWalk o_oftenAll o_oftenRoad o_oftenPegs), (b 4, .inl (cB, 900, .inl o_f4)), (b 6, .inl (cI, 5, .inl f6))] H := hP
    have hD : va_D A [(h0, oX10 b o_thrown o_taped o_size o_at o_from o_token o_value o_faultKind o_faultPlace o_lawNow o_walkSet o_oneWidow o_oneTurn o_askWorst o_mayWalk o_oftenAll o_oftenRoad o_oftenPegs), (b 4, .inl (cB, 900, .inl o_f4)), (b 6, .inl (cI, 5, .inl f6))] := hD
    refine lv_aload_n hx hb dX10_feed_44 rfl (lv_at hl 0 rfl) ?_
    refine va_get (D := G) (ci := 10) (v := .ref (b 6)) (C := RX10) (T := TX10) (N := 46) hx hb hts iG_X10 hown hK hP 0 rfl rfl 6 (by decide) (hts _ w_1198) (fun _ h9 => h9) rfl dX10_feed_45 ?_
    refine lv_iconst (v := 4) hx hb dX10_feed_48 (by decide) ?_
    refine lv_iload hx hb dX10_feed_49 (lv_at hl 5 rfl) ?_
    refine va_iast hx hb hK hP hD hS 2 0 rfl rfl (ix_in ki_4 (by omega) (by omega)) dX10_feed_51 (fun H locs hP hD hS => ?_)
    obtain ⟨f7, qf7⟩ : ∃ g, g = upd f6 (4 : Int32).toNatClampNeg p4 := ⟨_, rfl⟩
    rw [← qf7] at hP hD
    have hP : va_P G vwCl [(h0, oX10 b o_thrown o_taped o_size o_at o_from o_token o_value o_faultKind o_faultPlace o_lawNow o_walkSet o_oneWidow o_oneTurn o_askWorst o_mayWalk o_oftenAll o_oftenRoad o_oftenPegs), (b 4, .inl (cB, 900, .inl o_f4)), (b 6, .inl (cI, 5, .inl f7))] H := hP
    have hD : va_D A [(h0, oX10 b o_thrown o_taped o_size o_at o_from o_token o_value o_faultKind o_faultPlace o_lawNow o_walkSet o_oneWidow o_oneTurn o_askWorst o_mayWalk o_oftenAll o_oftenRoad o_oftenPegs), (b 4, .inl (cB, 900, .inl o_f4)), (b 6, .inl (cI, 5, .inl f7))] := hD
    refine lv_iconst (v := 0) hx hb dX10_feed_52 (by decide) ?_
    refine lv_istore (lv' := [(6, .int 0), (0, .ref h0), (1, .int p0), (2, .int p1), (3, .int p2), (4, .int p3), (5, .int p4)]) hx hb dX10_feed_53 hl (by decide) rfl (fun ls hl => ?_)
    have lp8 : ∀ (n9 : Nat) (x10 : Int32) (g11 : Nat → Int32), 0 ≤ x10.toInt → x10.toInt ≤ 20 → 20 - x10.toInt < (n9 : Int) → ∀ (H : Heap) (locs : List Loc), va_P G vwCl [(h0, oX10 b o_thrown o_taped o_size o_at o_from o_token o_value o_faultKind o_faultPlace o_lawNow o_walkSet o_oneWidow o_oneTurn o_askWorst o_mayWalk o_oftenAll o_oftenRoad o_oftenPegs), (b 4, .inl (cB, 900, .inl g11)), (b 6, .inl (cI, 5, .inl f7))] H → va_D A [(h0, oX10 b o_thrown o_taped o_size o_at o_from o_token o_value o_faultKind o_faultPlace o_lawNow o_walkSet o_oneWidow o_oneTurn o_askWorst o_mayWalk o_oftenAll o_oftenRoad o_oftenPegs), (b 4, .inl (cB, 900, .inl g11)), (b 6, .inl (cI, 5, .inl f7))] → va_S A s.heap H locs → ∀ (ls : Array Slot), lv_has ls 7 [(6, .int x10), (0, .ref h0), (1, .int p0), (2, .int p1), (3, .int p2), (4, .int p3), (5, .int p4)] → W p l e ({ frames := 0, cells := 0, slots := 0, locals := 0 } : Room) s m ([.ref h0, .int p0, .int p1, .int p2, .int p3, .int p4] : List Value).toArray below meth c H locs 0 0 Q (F0 m 55 ls []) := by
      intro n9
      induction n9 with
      | zero =>
        intro x10 g11 k12 k13 mm15
        exact absurd mm15 (by have q9 := fb_rng x10; omega)
      | succ n9 ih14 =>
        intro x10 g11 k12 k13 mm15 H locs hP hD hS ls hl
        refine lv_iload hx hb dX10_feed_55 (lv_at hl 0 rfl) ?_
        refine lv_bipush (v := 20) hx hb dX10_feed_57 (by decide) ?_
        refine lv_icmp_ge (tgt := 101) hx hb dX10_feed_59 (by decide) (fun c16 => ?_) (fun c16 => ?_)
        · have c16 := i_le ki_20 rfl c16
          refine lv_aload_n hx hb dX10_feed_101 rfl (lv_at hl 1 rfl) ?_
          refine lv_dup hx hb dX10_feed_102 rfl ?_
          refine va_get (D := G) (ci := 10) (v := .int o_taped) (C := RX10) (T := TX10) (N := 46) hx hb hts iG_X10 hown hK hP 0 rfl rfl 5 (by decide) (hts _ w_1197) (fun _ h9 => h9) rfl dX10_feed_103 ?_
          refine lv_bipush (v := 20) hx hb dX10_feed_106 (by decide) ?_
          refine lv_iadd hx hb dX10_feed_108 ?_
          refine lv_topi (fun v17 ev17 => ?_)
          have tv17 : v17.toInt = o_taped.toInt + 20 := ti_add rfl ki_20 ev17 (by omega) (by omega)
          refine va_put (D := G) (ci := 10) (v := .int v17) (ty := .int) (C := RX10) (T := TX10) (N := 46) hx hb hts iG_X10 tyX10 tyX10_ok nmX10 hown hK hP hD hS 0 rfl rfl 5 (by decide) (hts _ w_1197) (fun _ h9 => h9) rfl (by decide +kernel) rfl rfl (Nat.le_of_ble_eq_true rfl) dX10_feed_109 (fun H locs hP hD hS => ?_)
          have hP : va_P G vwCl [(h0, oX10 b o_thrown v17 o_size o_at o_from o_token o_value o_faultKind o_faultPlace o_lawNow o_walkSet o_oneWidow o_oneTurn o_askWorst o_mayWalk o_oftenAll o_oftenRoad o_oftenPegs), (b 4, .inl (cB, 900, .inl g11)), (b 6, .inl (cI, 5, .inl f7))] H := hP
          have hD : va_D A [(h0, oX10 b o_thrown v17 o_size o_at o_from o_token o_value o_faultKind o_faultPlace o_lawNow o_walkSet o_oneWidow o_oneTurn o_askWorst o_mayWalk o_oftenAll o_oftenRoad o_oftenPegs), (b 4, .inl (cB, 900, .inl g11)), (b 6, .inl (cI, 5, .inl f7))] := hD
          refine lv_aload_n hx hb dX10_feed_112 rfl (lv_at hl 1 rfl) ?_
          refine va_get (D := G) (ci := 10) (v := .int v17) (C := RX10) (T := TX10) (N := 46) hx hb hts iG_X10 hown hK hP 0 rfl rfl 5 (by decide) (hts _ w_1197) (fun _ h9 => h9) rfl dX10_feed_113 ?_
          exact hret _ _ _ _ v17 (v17, g11, f7) hP hD hS dX10_feed_116 (show 0 ≤ v17.toInt ∧ v17.toInt ≤ 900 from ⟨(by omega), (by omega)⟩)
        · have c16 := i_nle ki_20 rfl c16
          refine lv_aload_n hx hb dX10_feed_62 rfl (lv_at hl 1 rfl) ?_
          refine va_get (D := G) (ci := 10) (v := .ref (b 4)) (C := RX10) (T := TX10) (N := 46) hx hb hts iG_X10 hown hK hP 0 rfl rfl 4 (by decide) (hts _ w_1196) (fun _ h9 => h9) rfl dX10_feed_63 ?_
          refine lv_aload_n hx hb dX10_feed_66 rfl (lv_at hl 1 rfl) ?_
          refine va_get (D := G) (ci := 10) (v := .int o_taped) (C := RX10) (T := TX10) (N := 46) hx hb hts iG_X10 hown hK hP 0 rfl rfl 5 (by decide) (hts _ w_1197) (fun _ h9 => h9) rfl dX10_feed_67 ?_
          refine lv_iload hx hb dX10_feed_70 (lv_at hl 0 rfl) ?_
          refine lv_iadd hx hb dX10_feed_72 ?_
          refine lv_topi (fun v18 ev18 => ?_)
          have tv18 : v18.toInt = o_taped.toInt + x10.toInt := ti_add rfl rfl ev18 (by omega) (by omega)
          refine lv_aload_n hx hb dX10_feed_73 rfl (lv_at hl 1 rfl) ?_
          refine va_get (D := G) (ci := 10) (v := .ref (b 6)) (C := RX10) (T := TX10) (N := 46) hx hb hts iG_X10 hown hK hP 0 rfl rfl 6 (by decide) (hts _ w_1198) (fun _ h9 => h9) rfl dX10_feed_74 ?_
          refine lv_iload hx hb dX10_feed_77 (lv_at hl 0 rfl) ?_
          refine lv_iconst (v := 4) hx hb dX10_feed_79 (by decide) ?_
          refine lv_idiv hx hb dX10_feed_80 (by decide) ?_
          refine lv_topi (fun v19 ev19 => ?_)
          have tv19 : v19.toInt = x10.toInt / 4 := ti_div rfl (by omega) (by decide) ki_4 ev19
          refine va_iald hx hb hK hP 2 0 rfl rfl (ix_in tv19 (by omega) (by omega)) dX10_feed_81 ?_
          refine lv_topi (fun v20 ev20 => ?_)
          refine lv_bipush (v := 24) hx hb dX10_feed_82 (by decide) ?_
          refine lv_bipush (v := 8) hx hb dX10_feed_84 (by decide) ?_
          refine lv_iload hx hb dX10_feed_86 (lv_at hl 0 rfl) ?_
          refine lv_iconst (v := 4) hx hb dX10_feed_88 (by decide) ?_
          refine lv_irem hx hb dX10_feed_89 (by decide) ?_
          refine lv_topi (fun v21 ev21 => ?_)
          have tv21 : v21.toInt = x10.toInt % 4 := ti_rem rfl (by omega) (by decide) ki_4 ev21
          refine lv_imul hx hb dX10_feed_90 ?_
          refine lv_topi (fun v22 ev22 => ?_)
          have tv22 : v22.toInt = 8 * (x10.toInt % 4) := ti_mul ki_8 tv21 ev22 (by omega) (by omega)
          refine lv_isub hx hb dX10_feed_91 ?_
          refine lv_topi (fun v23 ev23 => ?_)
          have tv23 : v23.toInt = 24 - (8 * (x10.toInt % 4)) := ti_sub ki_24 tv22 ev23 (by omega) (by omega)
          refine lv_ishr hx hb dX10_feed_92 ?_
          refine lv_topi (fun v24 ev24 => ?_)
          refine lv_i2b hx hb dX10_feed_93 rfl ?_
          refine lv_topi (fun v25 ev25 => ?_)
          refine va_bast hx hb hK hP hD hS 1 3 rfl rfl (ix_in tv18 (by omega) (by omega)) dX10_feed_94 (fun H locs hP hD hS => ?_)
          obtain ⟨f26, qf26⟩ : ∃ g, g = upd g11 v18.toNatClampNeg (vp_nar .byte v25) := ⟨_, rfl⟩
          rw [← qf26] at hP hD
          have hP : va_P G vwCl [(h0, oX10 b o_thrown o_taped o_size o_at o_from o_token o_value o_faultKind o_faultPlace o_lawNow o_walkSet o_oneWidow o_oneTurn o_askWorst o_mayWalk o_oftenAll o_oftenRoad o_oftenPegs), (b 4, .inl (cB, 900, .inl f26)), (b 6, .inl (cI, 5, .inl f7))] H := hP
          have hD : va_D A [(h0, oX10 b o_thrown o_taped o_size o_at o_from o_token o_value o_faultKind o_faultPlace o_lawNow o_walkSet o_oneWidow o_oneTurn o_askWorst o_mayWalk o_oftenAll o_oftenRoad o_oftenPegs), (b 4, .inl (cB, 900, .inl f26)), (b 6, .inl (cI, 5, .inl f7))] := hD
          obtain ⟨v27, ev27⟩ : ∃ y : Int32, y = x10 + 1 := ⟨_, rfl⟩
          have tv27 : v27.toInt = x10.toInt + 1 := ti_add rfl ki_1 ev27 (by omega) (by omega)
          refine lv_iinc (v := v27) (lv' := [(6, .int v27), (0, .ref h0), (1, .int p0), (2, .int p1), (3, .int p2), (4, .int p3), (5, .int p4)]) hx hb dX10_feed_95 hl (k := 0) rfl (by rw [ev27]; rfl) (by decide) rfl (fun ls hl => ?_)
          refine lv_goto (tgt := 55) hx hb dX10_feed_98 (by decide) ?_
          exact ih14 v27 f26 (by omega) (by omega) (by omega) _ _ hP hD hS ls (lv_sub hl [0, 1, 2, 3, 4, 5, 6] rfl)
    exact lp8 21 0 o_f4 (by rw [ki_0]; decide) (by rw [ki_0]; decide) (by rw [ki_0]; decide) _ _ hP hD hS ls (lv_sub hl [0, 1, 2, 3, 4, 5, 6] rfl)
  · have c2 := i_nle tv1 ki_900 c2
    refine lv_iconst (v := (-1)) hx hb dX10_feed_13 (by decide) ?_
    exact hret _ _ _ _ (-1) (o_taped, o_f4, o_f6) hP hD hS dX10_feed_14 (show 0 ≤ o_taped.toInt ∧ o_taped.toInt ≤ 900 from ⟨hl_o_taped, hh_o_taped⟩)
set_option maxHeartbeats 4000000 in
set_option maxRecDepth 100000 in
theorem f_X10_end (l : Launch) (G : va_G) (cI cJ cZ cB cQ : ClassId) (sz : Nat) (h0 : Nat) (p0 : Int32) (a0 : Int) (b : Nat → Nat) (o_thrown : Int32) (o_taped : Int32) (o_size : Int32) (o_at : Int32) (o_from : Int32) (o_token : Int32) (o_value : Int32) (o_faultKind : Int32) (o_faultPlace : Int32) (o_lawNow : Int32) (o_walkSet : Int32) (o_oneWidow : Int32) (o_oneTurn : Int32) (o_askWorst : Int32) (o_mayWalk : Int32) (o_oftenAll : Int64) (o_oftenRoad : Int64) (o_oftenPegs : Int64) (hp0 : p0.toInt = a0) (hl_o_taped : 0 ≤ o_taped.toInt) (hh_o_taped : o_taped.toInt ≤ 900) (hl_o_size : 0 ≤ o_size.toInt) (hh_o_size : o_size.toInt ≤ 900) (hl_o_at : 0 ≤ o_at.toInt) (hh_o_at : o_at.toInt ≤ 900) (hl_o_from : 0 ≤ o_from.toInt) (hh_o_from : o_from.toInt ≤ 900) (hl_o_oneTurn : 0 ≤ o_oneTurn.toInt) (hh_o_oneTurn : o_oneTurn.toInt ≤ 4) : CI l yX10_end (wl_ yX10_end cX10_end 2 (some .int)) ({ frames := 1, cells := 0, slots := 0, locals := 25 } : Room) G (TY cI cJ cZ cB cQ) [.ref h0, .int p0] [(h0, oX10 b o_thrown o_taped o_size o_at o_from o_token o_value o_faultKind o_faultPlace o_lawNow o_walkSet o_oneWidow o_oneTurn o_askWorst o_mayWalk o_oftenAll o_oftenRoad o_oftenPegs)] sz (fun (r : Int32) (u : Int32) => 0 ≤ u.toInt ∧ u.toInt ≤ 900) (fun u : Int32 => [(h0, oX10 b o_thrown u o_size o_at o_from o_token o_value o_faultKind o_faultPlace o_lawNow o_walkSet o_oneWidow o_oneTurn o_askWorst o_mayWalk o_oftenAll o_oftenRoad o_oftenPegs)]) 0 0 := by
  refine CI.go (cc := cX10_end) (maxL := 2) (ret := (some .int)) (by decide) rfl (Nat.le_of_ble_eq_true rfl) ?_
  intro p e s m below meth c A ls Q hBd hret
  obtain ⟨hx, hb, hr, hml, hts, hown, hlk, hnm, hP, hK, hD, hA, hZ, hl⟩ := hBd
  have hown : s.vm.findClass RX10 = some m.cls := hown
  have hl : lv_has ls 2 [(0, .ref h0), (1, .int p0)] := hl
  have hS : va_S A s.heap s.heap [] := va_S.rf
  refine lv_iload_n hx hb dX10_end_0 rfl (lv_at hl 1 rfl) ?_
  obtain ⟨v1, ev1⟩ : ∃ y : Int64, p0.toInt64 = y := ⟨_, rfl⟩
  have tv1 : v1.toInt = a0 := ti_wide hp0 ev1
  refine lv_i2l (v := v1) hx hb dX10_end_1 ev1 ?_
  refine lv_lconst (v := 0) hx hb dX10_end_2 (by decide) ?_
  refine lv_aload_n hx hb dX10_end_3 rfl (lv_at hl 0 rfl) ?_
  refine va_get (D := G) (ci := 10) (v := .int o_taped) (C := RX10) (T := TX10) (N := 46) hx hb hts iG_X10 hown hK hP 0 rfl rfl 5 (by decide) (hts _ w_1197) (fun _ h9 => h9) rfl dX10_end_4 ?_
  obtain ⟨v2, ev2⟩ : ∃ y : Int64, o_taped.toInt64 = y := ⟨_, rfl⟩
  have tv2 : v2.toInt = o_taped.toInt := ti_wide rfl ev2
  refine lv_i2l (v := v2) hx hb dX10_end_7 ev2 ?_
  refine k_i (wc := []) (wr := [(h0, oX10 b o_thrown o_taped o_size o_at o_from o_token o_value o_faultKind o_faultPlace o_lawNow o_walkSet o_oneWidow o_oneTurn o_askWorst o_mayWalk o_oftenAll o_oftenRoad o_oftenPegs)]) hP hD hS hA [] [0] rfl rfl rfl (by decide) (va_runS (As := [.long v1, .long 0, .long v2]) (rest := []) ⟨hx, hb, hml, hown, hts⟩ (f_X10_in l G cI cJ cZ cB cQ _ v1 a0 0 0 v2 o_taped.toInt tv1 kl_0 tv2) (va_cwS 3 hts (gS w_1336 w_1337 w_11 w_1338) rfl rfl rfl hd_X10_in ⟨Nat.le_of_ble_eq_true rfl, Nat.le_of_ble_eq_true rfl⟩) (mS hK hZ hP hD [] rfl rfl [.long v1, .long 0, .long v2]) rfl rfl hl.1 rfl (lv_room (Nat.le_of_ble_eq_true rfl)) dX10_end_8 ⟨Nat.le_of_ble_eq_true rfl, Nat.le_of_ble_eq_true rfl⟩) (fun r3 u4 H locs hw5 hP hD hS => ?_)
  try dsimp only at hw5
  have hP : va_P G vwCl [(h0, oX10 b o_thrown o_taped o_size o_at o_from o_token o_value o_faultKind o_faultPlace o_lawNow o_walkSet o_oneWidow o_oneTurn o_askWorst o_mayWalk o_oftenAll o_oftenRoad o_oftenPegs)] H := hP
  have hD : va_D A [(h0, oX10 b o_thrown o_taped o_size o_at o_from o_token o_value o_faultKind o_faultPlace o_lawNow o_walkSet o_oneWidow o_oneTurn o_askWorst o_mayWalk o_oftenAll o_oftenRoad o_oftenPegs)] := hD
  rcases hw5 with ⟨rfl, a7, a8⟩ | ⟨rfl, a9⟩
  · skip
    refine lv_if_ne (tgt := 16) hx hb dX10_end_11 (by decide) (fun c10 => ?_) (fun c10 => absurd c10 (by decide))
    refine lv_aload_n hx hb dX10_end_16 rfl (lv_at hl 0 rfl) ?_
    refine lv_iload_n hx hb dX10_end_17 rfl (lv_at hl 1 rfl) ?_
    refine va_put (D := G) (ci := 10) (v := .int p0) (ty := .int) (C := RX10) (T := TX10) (N := 46) hx hb hts iG_X10 tyX10 tyX10_ok nmX10 hown hK hP hD hS 0 rfl rfl 5 (by decide) (hts _ w_1197) (fun _ h9 => h9) rfl (by decide +kernel) rfl rfl (Nat.le_of_ble_eq_true rfl) dX10_end_18 (fun H locs hP hD hS => ?_)
    have hP : va_P G vwCl [(h0, oX10 b o_thrown p0 o_size o_at o_from o_token o_value o_faultKind o_faultPlace o_lawNow o_walkSet o_oneWidow o_oneTurn o_askWorst o_mayWalk o_oftenAll o_oftenRoad o_oftenPegs)] H := hP
    have hD : va_D A [(h0, oX10 b o_thrown p0 o_size o_at o_from o_token o_value o_faultKind o_faultPlace o_lawNow o_walkSet o_oneWidow o_oneTurn o_askWorst o_mayWalk o_oftenAll o_oftenRoad o_oftenPegs)] := hD
    refine lv_iload_n hx hb dX10_end_21 rfl (lv_at hl 1 rfl) ?_
    exact hret _ _ _ _ p0 p0 hP hD hS dX10_end_22 (show 0 ≤ p0.toInt ∧ p0.toInt ≤ 900 from ⟨(by omega), (by omega)⟩)
  · skip
    refine lv_if_ne (tgt := 16) hx hb dX10_end_11 (by decide) (fun c11 => absurd (by decide) c11) (fun c11 => ?_)
    refine lv_iconst (v := (-1)) hx hb dX10_end_14 (by decide) ?_
    exact hret _ _ _ _ (-1) o_taped hP hD hS dX10_end_15 (show 0 ≤ o_taped.toInt ∧ o_taped.toInt ≤ 900 from ⟨hl_o_taped, hh_o_taped⟩)
set_option maxHeartbeats 4000000 in
set_option maxRecDepth 100000 in
theorem f_X10_see (l : Launch) (G : va_G) (cI cJ cZ cB cQ : ClassId) (sz : Nat) (h0 : Nat) (p0 : Int32) (a0 : Int) (b : Nat → Nat) (o_thrown : Int32) (o_taped : Int32) (o_size : Int32) (o_at : Int32) (o_from : Int32) (o_token : Int32) (o_value : Int32) (o_faultKind : Int32) (o_faultPlace : Int32) (o_lawNow : Int32) (o_walkSet : Int32) (o_oneWidow : Int32) (o_oneTurn : Int32) (o_askWorst : Int32) (o_mayWalk : Int32) (o_oftenAll : Int64) (o_oftenRoad : Int64) (o_oftenPegs : Int64) (o_f4 : Nat → Int32) (hp0 : p0.toInt = a0) (la0 : 0 ≤ a0) (hl_o_taped : 0 ≤ o_taped.toInt) (hh_o_taped : o_taped.toInt ≤ 900) (hl_o_size : 0 ≤ o_size.toInt) (hh_o_size : o_size.toInt ≤ 900) (hl_o_at : 0 ≤ o_at.toInt) (hh_o_at : o_at.toInt ≤ 900) (hl_o_from : 0 ≤ o_from.toInt) (hh_o_from : o_from.toInt ≤ 900) (hl_o_oneTurn : 0 ≤ o_oneTurn.toInt) (hh_o_oneTurn : o_oneTurn.toInt ≤ 4) : CI l yX10_see (wl_ yX10_see cX10_see 2 (some .int)) ({ frames := 0, cells := 0, slots := 0, locals := 0 } : Room) G (TY cI cJ cZ cB cQ) [.ref h0, .int p0] [(h0, oX10 b o_thrown o_taped o_size o_at o_from o_token o_value o_faultKind o_faultPlace o_lawNow o_walkSet o_oneWidow o_oneTurn o_askWorst o_mayWalk o_oftenAll o_oftenRoad o_oftenPegs), (b 4, .inl (cB, 900, .inl o_f4))] sz (fun (r : Int32) (u : Unit) => ((r = -1 ∧ o_size.toInt ≤ a0 ∧ seeI o_size.toInt o_f4 a0 = -1) ∨ (0 ≤ r.toInt ∧ r.toInt ≤ 255 ∧ a0 < o_size.toInt ∧ r.toInt = seeI o_size.toInt o_f4 a0))) (fun _ : Unit => [(h0, oX10 b o_thrown o_taped o_size o_at o_from o_token o_value o_faultKind o_faultPlace o_lawNow o_walkSet o_oneWidow o_oneTurn o_askWorst o_mayWalk o_oftenAll o_oftenRoad o_oftenPegs), (b 4, .inl (cB, 900, .inl o_f4))]) 0 0 := by
  refine CI.go (cc := cX10_see) (maxL := 2) (ret := (some .int)) (by decide) rfl (Nat.le_of_ble_eq_true rfl) ?_
  intro p e s m below meth c A ls Q hBd hret
  obtain ⟨hx, hb, hr, hml, hts, hown, hlk, hnm, hP, hK, hD, hA, hZ, hl⟩ := hBd
  have hown : s.vm.findClass RX10 = some m.cls := hown
  have hl : lv_has ls 2 [(0, .ref h0), (1, .int p0)] := hl
  have hS : va_S A s.heap s.heap [] := va_S.rf
  refine lv_iload_n hx hb dX10_see_0 rfl (lv_at hl 1 rfl) ?_
  refine lv_aload_n hx hb dX10_see_1 rfl (lv_at hl 0 rfl) ?_
  refine va_get (D := G) (ci := 10) (v := .int o_size) (C := RX10) (T := TX10) (N := 46) hx hb hts iG_X10 hown hK hP 0 rfl rfl 7 (by decide) (hts _ w_1199) (fun _ h9 => h9) rfl dX10_see_2 ?_
  refine lv_icmp_ge (tgt := 21) hx hb dX10_see_5 (by decide) (fun c1 => ?_) (fun c1 => ?_)
  · have c1 := i_le rfl hp0 c1
    refine lv_iconst (v := (-1)) hx hb dX10_see_21 (by decide) ?_
    exact hret _ _ _ _ (-1) () hP hD hS dX10_see_22 (show ((((-1) : Int32) = -1 ∧ o_size.toInt ≤ a0 ∧ seeI o_size.toInt o_f4 a0 = -1) ∨ (0 ≤ ((-1) : Int32).toInt ∧ ((-1) : Int32).toInt ≤ 255 ∧ a0 < o_size.toInt ∧ ((-1) : Int32).toInt = seeI o_size.toInt o_f4 a0)) from (Or.inl ⟨rfl, by omega, seeI_o (by omega)⟩))
  · have c1 := i_nle rfl hp0 c1
    refine lv_aload_n hx hb dX10_see_8 rfl (lv_at hl 0 rfl) ?_
    refine va_get (D := G) (ci := 10) (v := .ref (b 4)) (C := RX10) (T := TX10) (N := 46) hx hb hts iG_X10 hown hK hP 0 rfl rfl 4 (by decide) (hts _ w_1196) (fun _ h9 => h9) rfl dX10_see_9 ?_
    refine lv_iload_n hx hb dX10_see_12 rfl (lv_at hl 1 rfl) ?_
    refine va_bald hx hb hK hP 1 3 rfl rfl (ix_in hp0 (by omega) (by omega)) dX10_see_13 ?_
    refine lv_topi (fun v2 ev2 => ?_)
    refine lv_sipush (v := 255) hx hb dX10_see_14 (by decide) ?_
    refine lv_iand hx hb dX10_see_17 ?_
    refine lv_topi (fun v3 ev3 => ?_)
    obtain ⟨sa4, sb5⟩ : 0 ≤ v3.toInt ∧ v3.toInt ≤ 255 := and_m 8 (by decide) (by decide) ev3
    refine lv_goto (tgt := 22) hx hb dX10_see_18 (by decide) ?_
    exact hret _ _ _ _ v3 () hP hD hS dX10_see_22 (show ((v3 = -1 ∧ o_size.toInt ≤ a0 ∧ seeI o_size.toInt o_f4 a0 = -1) ∨ (0 ≤ v3.toInt ∧ v3.toInt ≤ 255 ∧ a0 < o_size.toInt ∧ v3.toInt = seeI o_size.toInt o_f4 a0)) from (Or.inr ⟨by omega, by omega, by omega, seeI_i (by omega) hp0 (by omega) ev2 ev3⟩))
set_option maxHeartbeats 4000000 in
set_option maxRecDepth 100000 in
theorem f_X10_advance (l : Launch) (G : va_G) (cI cJ cZ cB cQ : ClassId) (sz : Nat) (h0 : Nat) (b : Nat → Nat) (o_thrown : Int32) (o_taped : Int32) (o_size : Int32) (o_at : Int32) (o_from : Int32) (o_token : Int32) (o_value : Int32) (o_faultKind : Int32) (o_faultPlace : Int32) (o_lawNow : Int32) (o_walkSet : Int32) (o_oneWidow : Int32) (o_oneTurn : Int32) (o_askWorst : Int32) (o_mayWalk : Int32) (o_oftenAll : Int64) (o_oftenRoad : Int64) (o_oftenPegs : Int64) (o_f4 : Nat → Int32) (hl_o_taped : 0 ≤ o_taped.toInt) (hh_o_taped : o_taped.toInt ≤ 900) (hl_o_size : 0 ≤ o_size.toInt) (hh_o_size : o_size.toInt ≤ 900) (hl_o_at : 0 ≤ o_at.toInt) (hh_o_at : o_at.toInt ≤ 900) (hl_o_from : 0 ≤ o_from.toInt) (hh_o_from : o_from.toInt ≤ 900) (hl_o_oneTurn : 0 ≤ o_oneTurn.toInt) (hh_o_oneTurn : o_oneTurn.toInt ≤ 4) : CV l yX10_advance (wl_ yX10_advance cX10_advance 2 none) ({ frames := 1, cells := 0, slots := 0, locals := 25 } : Room) G (TY cI cJ cZ cB cQ) [.ref h0] [(h0, oX10 b o_thrown o_taped o_size o_at o_from o_token o_value o_faultKind o_faultPlace o_lawNow o_walkSet o_oneWidow o_oneTurn o_askWorst o_mayWalk o_oftenAll o_oftenRoad o_oftenPegs), (b 4, .inl (cB, 900, .inl o_f4))] sz (fun (u : Int32 × Int32 × Int32 × Int32) => 0 ≤ u.1.toInt ∧ u.1.toInt ≤ 900 ∧ 0 ≤ u.2.1.toInt ∧ u.2.1.toInt ≤ 900 ∧ o_at.toInt ≤ u.2.1.toInt ∧ u.2.1.toInt ≤ u.1.toInt ∧ (u.2.2.1.toInt = 0 ∨ u.2.1.toInt < u.1.toInt)) (fun u : Int32 × Int32 × Int32 × Int32 => [(h0, oX10 b o_thrown o_taped o_size u.1 u.2.1 u.2.2.1 u.2.2.2 o_faultKind o_faultPlace o_lawNow o_walkSet o_oneWidow o_oneTurn o_askWorst o_mayWalk o_oftenAll o_oftenRoad o_oftenPegs), (b 4, .inl (cB, 900, .inl o_f4))]) 0 0 := by
  refine CV.go (cc := cX10_advance) (maxL := 2) (ret := none) (by decide) rfl (Nat.le_of_ble_eq_true rfl) ?_
  intro p e s m below meth c A ls Q hBd hret
  obtain ⟨hx, hb, hr, hml, hts, hown, hlk, hnm, hP, hK, hD, hA, hZ, hl⟩ := hBd
  have hown : s.vm.findClass RX10 = some m.cls := hown
  have hl : lv_has ls 2 [(0, .ref h0)] := hl
  have hS : va_S A s.heap s.heap [] := va_S.rf
  have lp1 : ∀ (n2 : Nat) (z3 : Int32), 0 ≤ z3.toInt → z3.toInt ≤ 900 → o_at.toInt ≤ z3.toInt → 900 - z3.toInt < (n2 : Int) → ∀ (H : Heap) (locs : List Loc), va_P G vwCl [(h0, oX10 b o_thrown o_taped o_size z3 o_from o_token o_value o_faultKind o_faultPlace o_lawNow o_walkSet o_oneWidow o_oneTurn o_askWorst o_mayWalk o_oftenAll o_oftenRoad o_oftenPegs), (b 4, .inl (cB, 900, .inl o_f4))] H → va_D A [(h0, oX10 b o_thrown o_taped o_size z3 o_from o_token o_value o_faultKind o_faultPlace o_lawNow o_walkSet o_oneWidow o_oneTurn o_askWorst o_mayWalk o_oftenAll o_oftenRoad o_oftenPegs), (b 4, .inl (cB, 900, .inl o_f4))] → va_S A s.heap H locs → ∀ (ls : Array Slot), lv_has ls 2 [(0, .ref h0)] → W p l e ({ frames := 1, cells := 0, slots := 0, locals := 25 } : Room) s m ([.ref h0] : List Value).toArray below meth c H locs 0 0 Q (F0 m 0 ls []) := by
    intro n2
    induction n2 with
    | zero =>
      intro z3 k4 k5 az5 mm7
      exact absurd mm7 (by have q9 := fb_rng z3; omega)
    | succ n2 ih6 =>
      intro z3 k4 k5 az5 mm7 H locs hP hD hS ls hl
      refine lv_aload_n hx hb dX10_advance_0 rfl (lv_at hl 0 rfl) ?_
      refine lv_aload_n hx hb dX10_advance_1 rfl (lv_at hl 0 rfl) ?_
      refine va_get (D := G) (ci := 10) (v := .int z3) (C := RX10) (T := TX10) (N := 46) hx hb hts iG_X10 hown hK hP 0 rfl rfl 8 (by decide) (hts _ w_1200) (fun _ h9 => h9) rfl dX10_advance_2 ?_
      refine k_i (wc := [(h0, oX10 b o_thrown o_taped o_size z3 o_from o_token o_value o_faultKind o_faultPlace o_lawNow o_walkSet o_oneWidow o_oneTurn o_askWorst o_mayWalk o_oftenAll o_oftenRoad o_oftenPegs), (b 4, .inl (cB, 900, .inl o_f4))]) (wr := []) hP hD hS hA [0, 1] [] rfl rfl rfl (by decide) (va_runV (As := [.int z3]) (rest := []) ⟨hx, hb, hml, hown, hts⟩ (f_X10_see l G cI cJ cZ cB cQ _ h0 z3 z3.toInt b o_thrown o_taped o_size z3 o_from o_token o_value o_faultKind o_faultPlace o_lawNow o_walkSet o_oneWidow o_oneTurn o_askWorst o_mayWalk o_oftenAll o_oftenRoad o_oftenPegs o_f4 rfl (by omega) hl_o_taped hh_o_taped hl_o_size hh_o_size k4 k5 hl_o_from hh_o_from hl_o_oneTurn hh_o_oneTurn) (cwV 1 hts (gV w_1363 w_1365 wp_84 w_11 w_1366) rfl rfl rfl ⟨rfl, hd_X10_see⟩ ⟨Nat.le_of_ble_eq_true rfl, Nat.le_of_ble_eq_true rfl⟩) (mV hK hZ hP hD [0, 1] rfl rfl [.int z3] 0 10 rfl rfl) rfl rfl hl.1 rfl (lv_room (Nat.le_of_ble_eq_true rfl)) dX10_advance_5 ⟨Nat.le_of_ble_eq_true rfl, Nat.le_of_ble_eq_true rfl⟩) (fun r8 u9 H locs hw10 hP hD hS => ?_)
      try dsimp only at hw10
      have hP : va_P G vwCl [(h0, oX10 b o_thrown o_taped o_size z3 o_from o_token o_value o_faultKind o_faultPlace o_lawNow o_walkSet o_oneWidow o_oneTurn o_askWorst o_mayWalk o_oftenAll o_oftenRoad o_oftenPegs), (b 4, .inl (cB, 900, .inl o_f4))] H := hP
      have hD : va_D A [(h0, oX10 b o_thrown o_taped o_size z3 o_from o_token o_value o_faultKind o_faultPlace o_lawNow o_walkSet o_oneWidow o_oneTurn o_askWorst o_mayWalk o_oftenAll o_oftenRoad o_oftenPegs), (b 4, .inl (cB, 900, .inl o_f4))] := hD
      rcases hw10 with ⟨rfl, s12, s13⟩ | ⟨s14, s15, s16, s17⟩
      · skip
        refine lv_bipush (v := 32) hx hb dX10_advance_8 (by decide) ?_
        refine lv_icmp_eq (tgt := 26) hx hb dX10_advance_10 (by decide) (fun c18 => absurd c18 (by decide)) (fun c18 => ?_)
        refine lv_aload_n hx hb dX10_advance_13 rfl (lv_at hl 0 rfl) ?_
        refine lv_aload_n hx hb dX10_advance_14 rfl (lv_at hl 0 rfl) ?_
        refine va_get (D := G) (ci := 10) (v := .int z3) (C := RX10) (T := TX10) (N := 46) hx hb hts iG_X10 hown hK hP 0 rfl rfl 8 (by decide) (hts _ w_1200) (fun _ h9 => h9) rfl dX10_advance_15 ?_
        refine k_i (wc := [(h0, oX10 b o_thrown o_taped o_size z3 o_from o_token o_value o_faultKind o_faultPlace o_lawNow o_walkSet o_oneWidow o_oneTurn o_askWorst o_mayWalk o_oftenAll o_oftenRoad o_oftenPegs), (b 4, .inl (cB, 900, .inl o_f4))]) (wr := []) hP hD hS hA [0, 1] [] rfl rfl rfl (by decide) (va_runV (As := [.int z3]) (rest := []) ⟨hx, hb, hml, hown, hts⟩ (f_X10_see l G cI cJ cZ cB cQ _ h0 z3 z3.toInt b o_thrown o_taped o_size z3 o_from o_token o_value o_faultKind o_faultPlace o_lawNow o_walkSet o_oneWidow o_oneTurn o_askWorst o_mayWalk o_oftenAll o_oftenRoad o_oftenPegs o_f4 rfl (by omega) hl_o_taped hh_o_taped hl_o_size hh_o_size k4 k5 hl_o_from hh_o_from hl_o_oneTurn hh_o_oneTurn) (cwV 1 hts (gV w_1363 w_1365 wp_84 w_11 w_1366) rfl rfl rfl ⟨rfl, hd_X10_see⟩ ⟨Nat.le_of_ble_eq_true rfl, Nat.le_of_ble_eq_true rfl⟩) (mV hK hZ hP hD [0, 1] rfl rfl [.int z3] 0 10 rfl rfl) rfl rfl hl.1 rfl (lv_room (Nat.le_of_ble_eq_true rfl)) dX10_advance_18 ⟨Nat.le_of_ble_eq_true rfl, Nat.le_of_ble_eq_true rfl⟩) (fun r19 u20 H locs hw21 hP hD hS => ?_)
        try dsimp only at hw21
        have hP : va_P G vwCl [(h0, oX10 b o_thrown o_taped o_size z3 o_from o_token o_value o_faultKind o_faultPlace o_lawNow o_walkSet o_oneWidow o_oneTurn o_askWorst o_mayWalk o_oftenAll o_oftenRoad o_oftenPegs), (b 4, .inl (cB, 900, .inl o_f4))] H := hP
        have hD : va_D A [(h0, oX10 b o_thrown o_taped o_size z3 o_from o_token o_value o_faultKind o_faultPlace o_lawNow o_walkSet o_oneWidow o_oneTurn o_askWorst o_mayWalk o_oftenAll o_oftenRoad o_oftenPegs), (b 4, .inl (cB, 900, .inl o_f4))] := hD
        rcases hw21 with ⟨rfl, s23, s24⟩ | ⟨s25, s26, s27, s28⟩
        · skip
          refine lv_bipush (v := 10) hx hb dX10_advance_21 (by decide) ?_
          refine lv_icmp_ne (tgt := 39) hx hb dX10_advance_23 (by decide) (fun c29 => ?_) (fun c29 => absurd c29 (by decide))
          refine lv_aload_n hx hb dX10_advance_39 rfl (lv_at hl 0 rfl) ?_
          refine lv_aload_n hx hb dX10_advance_40 rfl (lv_at hl 0 rfl) ?_
          refine va_get (D := G) (ci := 10) (v := .int z3) (C := RX10) (T := TX10) (N := 46) hx hb hts iG_X10 hown hK hP 0 rfl rfl 8 (by decide) (hts _ w_1200) (fun _ h9 => h9) rfl dX10_advance_41 ?_
          refine va_put (D := G) (ci := 10) (v := .int z3) (ty := .int) (C := RX10) (T := TX10) (N := 46) hx hb hts iG_X10 tyX10 tyX10_ok nmX10 hown hK hP hD hS 0 rfl rfl 9 (by decide) (hts _ w_1201) (fun _ h9 => h9) rfl (by decide +kernel) rfl rfl (Nat.le_of_ble_eq_true rfl) dX10_advance_44 (fun H locs hP hD hS => ?_)
          have hP : va_P G vwCl [(h0, oX10 b o_thrown o_taped o_size z3 z3 o_token o_value o_faultKind o_faultPlace o_lawNow o_walkSet o_oneWidow o_oneTurn o_askWorst o_mayWalk o_oftenAll o_oftenRoad o_oftenPegs), (b 4, .inl (cB, 900, .inl o_f4))] H := hP
          have hD : va_D A [(h0, oX10 b o_thrown o_taped o_size z3 z3 o_token o_value o_faultKind o_faultPlace o_lawNow o_walkSet o_oneWidow o_oneTurn o_askWorst o_mayWalk o_oftenAll o_oftenRoad o_oftenPegs), (b 4, .inl (cB, 900, .inl o_f4))] := hD
          refine lv_aload_n hx hb dX10_advance_47 rfl (lv_at hl 0 rfl) ?_
          refine lv_aload_n hx hb dX10_advance_48 rfl (lv_at hl 0 rfl) ?_
          refine va_get (D := G) (ci := 10) (v := .int z3) (C := RX10) (T := TX10) (N := 46) hx hb hts iG_X10 hown hK hP 0 rfl rfl 8 (by decide) (hts _ w_1200) (fun _ h9 => h9) rfl dX10_advance_49 ?_
          refine k_i (wc := [(h0, oX10 b o_thrown o_taped o_size z3 z3 o_token o_value o_faultKind o_faultPlace o_lawNow o_walkSet o_oneWidow o_oneTurn o_askWorst o_mayWalk o_oftenAll o_oftenRoad o_oftenPegs), (b 4, .inl (cB, 900, .inl o_f4))]) (wr := []) hP hD hS hA [0, 1] [] rfl rfl rfl (by decide) (va_runV (As := [.int z3]) (rest := []) ⟨hx, hb, hml, hown, hts⟩ (f_X10_see l G cI cJ cZ cB cQ _ h0 z3 z3.toInt b o_thrown o_taped o_size z3 z3 o_token o_value o_faultKind o_faultPlace o_lawNow o_walkSet o_oneWidow o_oneTurn o_askWorst o_mayWalk o_oftenAll o_oftenRoad o_oftenPegs o_f4 rfl (by omega) hl_o_taped hh_o_taped hl_o_size hh_o_size k4 k5 k4 k5 hl_o_oneTurn hh_o_oneTurn) (cwV 1 hts (gV w_1363 w_1365 wp_84 w_11 w_1366) rfl rfl rfl ⟨rfl, hd_X10_see⟩ ⟨Nat.le_of_ble_eq_true rfl, Nat.le_of_ble_eq_true rfl⟩) (mV hK hZ hP hD [0, 1] rfl rfl [.int z3] 0 10 rfl rfl) rfl rfl hl.1 rfl (lv_room (Nat.le_of_ble_eq_true rfl)) dX10_advance_52 ⟨Nat.le_of_ble_eq_true rfl, Nat.le_of_ble_eq_true rfl⟩) (fun r30 u31 H locs hw32 hP hD hS => ?_)
          try dsimp only at hw32
          have hP : va_P G vwCl [(h0, oX10 b o_thrown o_taped o_size z3 z3 o_token o_value o_faultKind o_faultPlace o_lawNow o_walkSet o_oneWidow o_oneTurn o_askWorst o_mayWalk o_oftenAll o_oftenRoad o_oftenPegs), (b 4, .inl (cB, 900, .inl o_f4))] H := hP
          have hD : va_D A [(h0, oX10 b o_thrown o_taped o_size z3 z3 o_token o_value o_faultKind o_faultPlace o_lawNow o_walkSet o_oneWidow o_oneTurn o_askWorst o_mayWalk o_oftenAll o_oftenRoad o_oftenPegs), (b 4, .inl (cB, 900, .inl o_f4))] := hD
          rcases hw32 with ⟨rfl, s34, s35⟩ | ⟨s36, s37, s38, s39⟩
          · skip
            refine lv_istore_n (lv' := [(1, .int (-1)), (0, .ref h0)]) hx hb dX10_advance_55 rfl hl (by decide) rfl (fun ls hl => ?_)
            refine lv_iload_n hx hb dX10_advance_56 rfl (lv_at hl 0 rfl) ?_
            refine lv_iconst (v := (-1)) hx hb dX10_advance_57 (by decide) ?_
            refine lv_icmp_ne (tgt := 69) hx hb dX10_advance_58 (by decide) (fun c40 => absurd (by decide) c40) (fun c40 => ?_)
            refine lv_aload_n hx hb dX10_advance_61 rfl (lv_at hl 1 rfl) ?_
            refine lv_iconst (v := 0) hx hb dX10_advance_62 (by decide) ?_
            refine va_put (D := G) (ci := 10) (v := .int 0) (ty := .int) (C := RX10) (T := TX10) (N := 46) hx hb hts iG_X10 tyX10 tyX10_ok nmX10 hown hK hP hD hS 0 rfl rfl 10 (by decide) (hts _ w_1202) (fun _ h9 => h9) rfl (by decide +kernel) rfl rfl (Nat.le_of_ble_eq_true rfl) dX10_advance_63 (fun H locs hP hD hS => ?_)
            have hP : va_P G vwCl [(h0, oX10 b o_thrown o_taped o_size z3 z3 0 o_value o_faultKind o_faultPlace o_lawNow o_walkSet o_oneWidow o_oneTurn o_askWorst o_mayWalk o_oftenAll o_oftenRoad o_oftenPegs), (b 4, .inl (cB, 900, .inl o_f4))] H := hP
            have hD : va_D A [(h0, oX10 b o_thrown o_taped o_size z3 z3 0 o_value o_faultKind o_faultPlace o_lawNow o_walkSet o_oneWidow o_oneTurn o_askWorst o_mayWalk o_oftenAll o_oftenRoad o_oftenPegs), (b 4, .inl (cB, 900, .inl o_f4))] := hD
            refine lv_goto (tgt := 239) hx hb dX10_advance_66 (by decide) ?_
            exact hret _ _ _ _ (z3, z3, 0, o_value) hP hD hS dX10_advance_239 (show 0 ≤ z3.toInt ∧ z3.toInt ≤ 900 ∧ 0 ≤ z3.toInt ∧ z3.toInt ≤ 900 ∧ o_at.toInt ≤ z3.toInt ∧ z3.toInt ≤ z3.toInt ∧ ((0 : Int32).toInt = 0 ∨ z3.toInt < z3.toInt) from ⟨k4, k5, k4, k5, (by omega), (by omega), (Or.inl ki_0)⟩)
          · skip
            refine lv_istore_n (lv' := [(1, .int r30), (0, .ref h0)]) hx hb dX10_advance_55 rfl hl (by decide) rfl (fun ls hl => ?_)
            refine lv_iload_n hx hb dX10_advance_56 rfl (lv_at hl 0 rfl) ?_
            refine lv_iconst (v := (-1)) hx hb dX10_advance_57 (by decide) ?_
            refine lv_icmp_ne (tgt := 69) hx hb dX10_advance_58 (by decide) (fun c41 => ?_) (fun c41 => absurd (i_eq rfl ki_m1 c41) (by omega))
            have c41 := i_ne rfl ki_m1 c41
            refine lv_iload_n hx hb dX10_advance_69 rfl (lv_at hl 0 rfl) ?_
            obtain ⟨v42, ev42⟩ : ∃ y : Int64, r30.toInt64 = y := ⟨_, rfl⟩
            have tv42 : v42.toInt = r30.toInt := ti_wide rfl ev42
            refine lv_i2l (v := v42) hx hb dX10_advance_70 ev42 ?_
            refine lv_ldc2 (v := 97) hx hb hown (hts _ w_1367) dX10_advance_71 ?_
            refine lv_ldc2 (v := 122) hx hb hown (hts _ w_1368) dX10_advance_74 ?_
            refine k_i (wc := []) (wr := [(h0, oX10 b o_thrown o_taped o_size z3 z3 o_token o_value o_faultKind o_faultPlace o_lawNow o_walkSet o_oneWidow o_oneTurn o_askWorst o_mayWalk o_oftenAll o_oftenRoad o_oftenPegs), (b 4, .inl (cB, 900, .inl o_f4))]) hP hD hS hA [] [0, 1] rfl rfl rfl (by decide) (va_runS (As := [.long v42, .long 97, .long 122]) (rest := []) ⟨hx, hb, hml, hown, hts⟩ (f_X10_in l G cI cJ cZ cB cQ _ v42 r30.toInt 97 97 122 122 tv42 kl_97 kl_122) (va_cwS 3 hts (gS w_1336 w_1337 w_11 w_1338) rfl rfl rfl hd_X10_in ⟨Nat.le_of_ble_eq_true rfl, Nat.le_of_ble_eq_true rfl⟩) (mS hK hZ hP hD [] rfl rfl [.long v42, .long 97, .long 122]) rfl rfl hl.1 rfl (lv_room (Nat.le_of_ble_eq_true rfl)) dX10_advance_77 ⟨Nat.le_of_ble_eq_true rfl, Nat.le_of_ble_eq_true rfl⟩) (fun r43 u44 H locs hw45 hP hD hS => ?_)
            try dsimp only at hw45
            have hP : va_P G vwCl [(h0, oX10 b o_thrown o_taped o_size z3 z3 o_token o_value o_faultKind o_faultPlace o_lawNow o_walkSet o_oneWidow o_oneTurn o_askWorst o_mayWalk o_oftenAll o_oftenRoad o_oftenPegs), (b 4, .inl (cB, 900, .inl o_f4))] H := hP
            have hD : va_D A [(h0, oX10 b o_thrown o_taped o_size z3 z3 o_token o_value o_faultKind o_faultPlace o_lawNow o_walkSet o_oneWidow o_oneTurn o_askWorst o_mayWalk o_oftenAll o_oftenRoad o_oftenPegs), (b 4, .inl (cB, 900, .inl o_f4))] := hD
            rcases hw45 with ⟨rfl, a47, a48⟩ | ⟨rfl, a49⟩
            · skip
              refine lv_if_eq (tgt := 125) hx hb dX10_advance_80 (by decide) (fun c50 => absurd c50 (by decide)) (fun c50 => ?_)
              have lp51 : ∀ (n52 : Nat) (z53 : Int32), 0 ≤ z53.toInt → z53.toInt ≤ 900 → z3.toInt ≤ z53.toInt → z3.toInt < z53.toInt ∨ (97 ≤ seeI o_size.toInt o_f4 z53.toInt ∧ seeI o_size.toInt o_f4 z53.toInt ≤ 122) → 900 - z53.toInt < (n52 : Int) → ∀ (H : Heap) (locs : List Loc), va_P G vwCl [(h0, oX10 b o_thrown o_taped o_size z53 z3 o_token o_value o_faultKind o_faultPlace o_lawNow o_walkSet o_oneWidow o_oneTurn o_askWorst o_mayWalk o_oftenAll o_oftenRoad o_oftenPegs), (b 4, .inl (cB, 900, .inl o_f4))] H → va_D A [(h0, oX10 b o_thrown o_taped o_size z53 z3 o_token o_value o_faultKind o_faultPlace o_lawNow o_walkSet o_oneWidow o_oneTurn o_askWorst o_mayWalk o_oftenAll o_oftenRoad o_oftenPegs), (b 4, .inl (cB, 900, .inl o_f4))] → va_S A s.heap H locs → ∀ (ls : Array Slot), lv_has ls 2 [(1, .int r30), (0, .ref h0)] → W p l e ({ frames := 1, cells := 0, slots := 0, locals := 25 } : Room) s m ([.ref h0] : List Value).toArray below meth c H locs 0 0 Q (F0 m 83 ls []) := by
                intro n52
                induction n52 with
                | zero =>
                  intro z53 k54 k55 ax55 ay55 mm57
                  exact absurd mm57 (by have q9 := fb_rng z53; omega)
                | succ n52 ih56 =>
                  intro z53 k54 k55 ax55 ay55 mm57 H locs hP hD hS ls hl
                  refine lv_aload_n hx hb dX10_advance_83 rfl (lv_at hl 1 rfl) ?_
                  refine lv_aload_n hx hb dX10_advance_84 rfl (lv_at hl 1 rfl) ?_
                  refine va_get (D := G) (ci := 10) (v := .int z53) (C := RX10) (T := TX10) (N := 46) hx hb hts iG_X10 hown hK hP 0 rfl rfl 8 (by decide) (hts _ w_1200) (fun _ h9 => h9) rfl dX10_advance_85 ?_
                  refine k_i (wc := [(h0, oX10 b o_thrown o_taped o_size z53 z3 o_token o_value o_faultKind o_faultPlace o_lawNow o_walkSet o_oneWidow o_oneTurn o_askWorst o_mayWalk o_oftenAll o_oftenRoad o_oftenPegs), (b 4, .inl (cB, 900, .inl o_f4))]) (wr := []) hP hD hS hA [0, 1] [] rfl rfl rfl (by decide) (va_runV (As := [.int z53]) (rest := []) ⟨hx, hb, hml, hown, hts⟩ (f_X10_see l G cI cJ cZ cB cQ _ h0 z53 z53.toInt b o_thrown o_taped o_size z53 z3 o_token o_value o_faultKind o_faultPlace o_lawNow o_walkSet o_oneWidow o_oneTurn o_askWorst o_mayWalk o_oftenAll o_oftenRoad o_oftenPegs o_f4 rfl (by omega) hl_o_taped hh_o_taped hl_o_size hh_o_size k54 k55 k4 (by omega) hl_o_oneTurn hh_o_oneTurn) (cwV 1 hts (gV w_1363 w_1365 wp_84 w_11 w_1366) rfl rfl rfl ⟨rfl, hd_X10_see⟩ ⟨Nat.le_of_ble_eq_true rfl, Nat.le_of_ble_eq_true rfl⟩) (mV hK hZ hP hD [0, 1] rfl rfl [.int z53] 0 10 rfl rfl) rfl rfl hl.1 rfl (lv_room (Nat.le_of_ble_eq_true rfl)) dX10_advance_88 ⟨Nat.le_of_ble_eq_true rfl, Nat.le_of_ble_eq_true rfl⟩) (fun r58 u59 H locs hw60 hP hD hS => ?_)
                  try dsimp only at hw60
                  have hP : va_P G vwCl [(h0, oX10 b o_thrown o_taped o_size z53 z3 o_token o_value o_faultKind o_faultPlace o_lawNow o_walkSet o_oneWidow o_oneTurn o_askWorst o_mayWalk o_oftenAll o_oftenRoad o_oftenPegs), (b 4, .inl (cB, 900, .inl o_f4))] H := hP
                  have hD : va_D A [(h0, oX10 b o_thrown o_taped o_size z53 z3 o_token o_value o_faultKind o_faultPlace o_lawNow o_walkSet o_oneWidow o_oneTurn o_askWorst o_mayWalk o_oftenAll o_oftenRoad o_oftenPegs), (b 4, .inl (cB, 900, .inl o_f4))] := hD
                  rcases hw60 with ⟨rfl, s62, s63⟩ | ⟨s64, s65, s66, s67⟩
                  · skip
                    refine lv_i2l (v := (-1)) hx hb dX10_advance_91 (by decide) ?_
                    refine lv_ldc2 (v := 97) hx hb hown (hts _ w_1367) dX10_advance_92 ?_
                    refine lv_ldc2 (v := 122) hx hb hown (hts _ w_1368) dX10_advance_95 ?_
                    refine k_i (wc := []) (wr := [(h0, oX10 b o_thrown o_taped o_size z53 z3 o_token o_value o_faultKind o_faultPlace o_lawNow o_walkSet o_oneWidow o_oneTurn o_askWorst o_mayWalk o_oftenAll o_oftenRoad o_oftenPegs), (b 4, .inl (cB, 900, .inl o_f4))]) hP hD hS hA [] [0, 1] rfl rfl rfl (by decide) (va_runS (As := [.long (-1), .long 97, .long 122]) (rest := []) ⟨hx, hb, hml, hown, hts⟩ (f_X10_in l G cI cJ cZ cB cQ _ (-1) (-1) 97 97 122 122 kl_m1 kl_97 kl_122) (va_cwS 3 hts (gS w_1336 w_1337 w_11 w_1338) rfl rfl rfl hd_X10_in ⟨Nat.le_of_ble_eq_true rfl, Nat.le_of_ble_eq_true rfl⟩) (mS hK hZ hP hD [] rfl rfl [.long (-1), .long 97, .long 122]) rfl rfl hl.1 rfl (lv_room (Nat.le_of_ble_eq_true rfl)) dX10_advance_98 ⟨Nat.le_of_ble_eq_true rfl, Nat.le_of_ble_eq_true rfl⟩) (fun r69 u70 H locs hw71 hP hD hS => ?_)
                    try dsimp only at hw71
                    have hP : va_P G vwCl [(h0, oX10 b o_thrown o_taped o_size z53 z3 o_token o_value o_faultKind o_faultPlace o_lawNow o_walkSet o_oneWidow o_oneTurn o_askWorst o_mayWalk o_oftenAll o_oftenRoad o_oftenPegs), (b 4, .inl (cB, 900, .inl o_f4))] H := hP
                    have hD : va_D A [(h0, oX10 b o_thrown o_taped o_size z53 z3 o_token o_value o_faultKind o_faultPlace o_lawNow o_walkSet o_oneWidow o_oneTurn o_askWorst o_mayWalk o_oftenAll o_oftenRoad o_oftenPegs), (b 4, .inl (cB, 900, .inl o_f4))] := hD
                    rcases hw71 with ⟨rfl, a73, a74⟩ | ⟨rfl, a75⟩
                    · exact absurd (And.intro a73 a74) (by omega)
                    · skip
                      refine lv_if_eq (tgt := 117) hx hb dX10_advance_101 (by decide) (fun c76 => ?_) (fun c76 => absurd (by decide) c76)
                      refine lv_aload_n hx hb dX10_advance_117 rfl (lv_at hl 1 rfl) ?_
                      refine lv_iconst (v := 1) hx hb dX10_advance_118 (by decide) ?_
                      refine va_put (D := G) (ci := 10) (v := .int 1) (ty := .int) (C := RX10) (T := TX10) (N := 46) hx hb hts iG_X10 tyX10 tyX10_ok nmX10 hown hK hP hD hS 0 rfl rfl 10 (by decide) (hts _ w_1202) (fun _ h9 => h9) rfl (by decide +kernel) rfl rfl (Nat.le_of_ble_eq_true rfl) dX10_advance_119 (fun H locs hP hD hS => ?_)
                      have hP : va_P G vwCl [(h0, oX10 b o_thrown o_taped o_size z53 z3 1 o_value o_faultKind o_faultPlace o_lawNow o_walkSet o_oneWidow o_oneTurn o_askWorst o_mayWalk o_oftenAll o_oftenRoad o_oftenPegs), (b 4, .inl (cB, 900, .inl o_f4))] H := hP
                      have hD : va_D A [(h0, oX10 b o_thrown o_taped o_size z53 z3 1 o_value o_faultKind o_faultPlace o_lawNow o_walkSet o_oneWidow o_oneTurn o_askWorst o_mayWalk o_oftenAll o_oftenRoad o_oftenPegs), (b 4, .inl (cB, 900, .inl o_f4))] := hD
                      refine lv_goto (tgt := 239) hx hb dX10_advance_122 (by decide) ?_
                      exact hret _ _ _ _ (z53, z3, 1, o_value) hP hD hS dX10_advance_239 (show 0 ≤ z53.toInt ∧ z53.toInt ≤ 900 ∧ 0 ≤ z3.toInt ∧ z3.toInt ≤ 900 ∧ o_at.toInt ≤ z3.toInt ∧ z3.toInt ≤ z53.toInt ∧ ((1 : Int32).toInt = 0 ∨ z3.toInt < z53.toInt) from ⟨k54, k55, k4, (by omega), (by omega), (by omega), (Or.inr (by omega))⟩)
                  · skip
                    obtain ⟨v77, ev77⟩ : ∃ y : Int64, r58.toInt64 = y := ⟨_, rfl⟩
                    have tv77 : v77.toInt = r58.toInt := ti_wide rfl ev77
                    refine lv_i2l (v := v77) hx hb dX10_advance_91 ev77 ?_
                    refine lv_ldc2 (v := 97) hx hb hown (hts _ w_1367) dX10_advance_92 ?_
                    refine lv_ldc2 (v := 122) hx hb hown (hts _ w_1368) dX10_advance_95 ?_
                    refine k_i (wc := []) (wr := [(h0, oX10 b o_thrown o_taped o_size z53 z3 o_token o_value o_faultKind o_faultPlace o_lawNow o_walkSet o_oneWidow o_oneTurn o_askWorst o_mayWalk o_oftenAll o_oftenRoad o_oftenPegs), (b 4, .inl (cB, 900, .inl o_f4))]) hP hD hS hA [] [0, 1] rfl rfl rfl (by decide) (va_runS (As := [.long v77, .long 97, .long 122]) (rest := []) ⟨hx, hb, hml, hown, hts⟩ (f_X10_in l G cI cJ cZ cB cQ _ v77 r58.toInt 97 97 122 122 tv77 kl_97 kl_122) (va_cwS 3 hts (gS w_1336 w_1337 w_11 w_1338) rfl rfl rfl hd_X10_in ⟨Nat.le_of_ble_eq_true rfl, Nat.le_of_ble_eq_true rfl⟩) (mS hK hZ hP hD [] rfl rfl [.long v77, .long 97, .long 122]) rfl rfl hl.1 rfl (lv_room (Nat.le_of_ble_eq_true rfl)) dX10_advance_98 ⟨Nat.le_of_ble_eq_true rfl, Nat.le_of_ble_eq_true rfl⟩) (fun r78 u79 H locs hw80 hP hD hS => ?_)
                    try dsimp only at hw80
                    have hP : va_P G vwCl [(h0, oX10 b o_thrown o_taped o_size z53 z3 o_token o_value o_faultKind o_faultPlace o_lawNow o_walkSet o_oneWidow o_oneTurn o_askWorst o_mayWalk o_oftenAll o_oftenRoad o_oftenPegs), (b 4, .inl (cB, 900, .inl o_f4))] H := hP
                    have hD : va_D A [(h0, oX10 b o_thrown o_taped o_size z53 z3 o_token o_value o_faultKind o_faultPlace o_lawNow o_walkSet o_oneWidow o_oneTurn o_askWorst o_mayWalk o_oftenAll o_oftenRoad o_oftenPegs), (b 4, .inl (cB, 900, .inl o_f4))] := hD
                    rcases hw80 with ⟨rfl, a82, a83⟩ | ⟨rfl, a84⟩
                    · skip
                      refine lv_if_eq (tgt := 117) hx hb dX10_advance_101 (by decide) (fun c85 => absurd c85 (by decide)) (fun c85 => ?_)
                      refine lv_aload_n hx hb dX10_advance_104 rfl (lv_at hl 1 rfl) ?_
                      refine lv_dup hx hb dX10_advance_105 rfl ?_
                      refine va_get (D := G) (ci := 10) (v := .int z53) (C := RX10) (T := TX10) (N := 46) hx hb hts iG_X10 hown hK hP 0 rfl rfl 8 (by decide) (hts _ w_1200) (fun _ h9 => h9) rfl dX10_advance_106 ?_
                      refine lv_iconst (v := 1) hx hb dX10_advance_109 (by decide) ?_
                      refine lv_iadd hx hb dX10_advance_110 ?_
                      refine lv_topi (fun v86 ev86 => ?_)
                      have tv86 : v86.toInt = z53.toInt + 1 := ti_add rfl ki_1 ev86 (by omega) (by omega)
                      refine va_put (D := G) (ci := 10) (v := .int v86) (ty := .int) (C := RX10) (T := TX10) (N := 46) hx hb hts iG_X10 tyX10 tyX10_ok nmX10 hown hK hP hD hS 0 rfl rfl 8 (by decide) (hts _ w_1200) (fun _ h9 => h9) rfl (by decide +kernel) rfl rfl (Nat.le_of_ble_eq_true rfl) dX10_advance_111 (fun H locs hP hD hS => ?_)
                      have hP : va_P G vwCl [(h0, oX10 b o_thrown o_taped o_size v86 z3 o_token o_value o_faultKind o_faultPlace o_lawNow o_walkSet o_oneWidow o_oneTurn o_askWorst o_mayWalk o_oftenAll o_oftenRoad o_oftenPegs), (b 4, .inl (cB, 900, .inl o_f4))] H := hP
                      have hD : va_D A [(h0, oX10 b o_thrown o_taped o_size v86 z3 o_token o_value o_faultKind o_faultPlace o_lawNow o_walkSet o_oneWidow o_oneTurn o_askWorst o_mayWalk o_oftenAll o_oftenRoad o_oftenPegs), (b 4, .inl (cB, 900, .inl o_f4))] := hD
                      refine lv_goto (tgt := 83) hx hb dX10_advance_114 (by decide) ?_
                      exact ih56 v86 (by omega) (by omega) (by omega) (by omega) (by omega) _ _ hP hD hS ls (lv_sub hl [0, 1] rfl)
                    · skip
                      refine lv_if_eq (tgt := 117) hx hb dX10_advance_101 (by decide) (fun c87 => ?_) (fun c87 => absurd (by decide) c87)
                      refine lv_aload_n hx hb dX10_advance_117 rfl (lv_at hl 1 rfl) ?_
                      refine lv_iconst (v := 1) hx hb dX10_advance_118 (by decide) ?_
                      refine va_put (D := G) (ci := 10) (v := .int 1) (ty := .int) (C := RX10) (T := TX10) (N := 46) hx hb hts iG_X10 tyX10 tyX10_ok nmX10 hown hK hP hD hS 0 rfl rfl 10 (by decide) (hts _ w_1202) (fun _ h9 => h9) rfl (by decide +kernel) rfl rfl (Nat.le_of_ble_eq_true rfl) dX10_advance_119 (fun H locs hP hD hS => ?_)
                      have hP : va_P G vwCl [(h0, oX10 b o_thrown o_taped o_size z53 z3 1 o_value o_faultKind o_faultPlace o_lawNow o_walkSet o_oneWidow o_oneTurn o_askWorst o_mayWalk o_oftenAll o_oftenRoad o_oftenPegs), (b 4, .inl (cB, 900, .inl o_f4))] H := hP
                      have hD : va_D A [(h0, oX10 b o_thrown o_taped o_size z53 z3 1 o_value o_faultKind o_faultPlace o_lawNow o_walkSet o_oneWidow o_oneTurn o_askWorst o_mayWalk o_oftenAll o_oftenRoad o_oftenPegs), (b 4, .inl (cB, 900, .inl o_f4))] := hD
                      refine lv_goto (tgt := 239) hx hb dX10_advance_122 (by decide) ?_
                      exact hret _ _ _ _ (z53, z3, 1, o_value) hP hD hS dX10_advance_239 (show 0 ≤ z53.toInt ∧ z53.toInt ≤ 900 ∧ 0 ≤ z3.toInt ∧ z3.toInt ≤ 900 ∧ o_at.toInt ≤ z3.toInt ∧ z3.toInt ≤ z53.toInt ∧ ((1 : Int32).toInt = 0 ∨ z3.toInt < z53.toInt) from ⟨k54, (by omega), k4, (by omega), (by omega), (by omega), (Or.inr (by omega))⟩)
              exact lp51 901 z3 k4 (by omega) (by omega) (by omega) (by have q9 := fb_rng z3; omega) _ _ hP hD hS ls (lv_sub hl [0, 1] rfl)
            · skip
              refine lv_if_eq (tgt := 125) hx hb dX10_advance_80 (by decide) (fun c88 => ?_) (fun c88 => absurd (by decide) c88)
              refine lv_iload_n hx hb dX10_advance_125 rfl (lv_at hl 0 rfl) ?_
              obtain ⟨v89, ev89⟩ : ∃ y : Int64, r30.toInt64 = y := ⟨_, rfl⟩
              have tv89 : v89.toInt = r30.toInt := ti_wide rfl ev89
              refine lv_i2l (v := v89) hx hb dX10_advance_126 ev89 ?_
              refine lv_ldc2 (v := 48) hx hb hown (hts _ w_1369) dX10_advance_127 ?_
              refine lv_ldc2 (v := 57) hx hb hown (hts _ w_1370) dX10_advance_130 ?_
              refine k_i (wc := []) (wr := [(h0, oX10 b o_thrown o_taped o_size z3 z3 o_token o_value o_faultKind o_faultPlace o_lawNow o_walkSet o_oneWidow o_oneTurn o_askWorst o_mayWalk o_oftenAll o_oftenRoad o_oftenPegs), (b 4, .inl (cB, 900, .inl o_f4))]) hP hD hS hA [] [0, 1] rfl rfl rfl (by decide) (va_runS (As := [.long v89, .long 48, .long 57]) (rest := []) ⟨hx, hb, hml, hown, hts⟩ (f_X10_in l G cI cJ cZ cB cQ _ v89 r30.toInt 48 48 57 57 tv89 kl_48 kl_57) (va_cwS 3 hts (gS w_1336 w_1337 w_11 w_1338) rfl rfl rfl hd_X10_in ⟨Nat.le_of_ble_eq_true rfl, Nat.le_of_ble_eq_true rfl⟩) (mS hK hZ hP hD [] rfl rfl [.long v89, .long 48, .long 57]) rfl rfl hl.1 rfl (lv_room (Nat.le_of_ble_eq_true rfl)) dX10_advance_133 ⟨Nat.le_of_ble_eq_true rfl, Nat.le_of_ble_eq_true rfl⟩) (fun r90 u91 H locs hw92 hP hD hS => ?_)
              try dsimp only at hw92
              have hP : va_P G vwCl [(h0, oX10 b o_thrown o_taped o_size z3 z3 o_token o_value o_faultKind o_faultPlace o_lawNow o_walkSet o_oneWidow o_oneTurn o_askWorst o_mayWalk o_oftenAll o_oftenRoad o_oftenPegs), (b 4, .inl (cB, 900, .inl o_f4))] H := hP
              have hD : va_D A [(h0, oX10 b o_thrown o_taped o_size z3 z3 o_token o_value o_faultKind o_faultPlace o_lawNow o_walkSet o_oneWidow o_oneTurn o_askWorst o_mayWalk o_oftenAll o_oftenRoad o_oftenPegs), (b 4, .inl (cB, 900, .inl o_f4))] := hD
              rcases hw92 with ⟨rfl, a94, a95⟩ | ⟨rfl, a96⟩
              · skip
                refine lv_if_eq (tgt := 214) hx hb dX10_advance_136 (by decide) (fun c97 => absurd c97 (by decide)) (fun c97 => ?_)
                refine lv_aload_n hx hb dX10_advance_139 rfl (lv_at hl 1 rfl) ?_
                refine lv_iconst (v := 0) hx hb dX10_advance_140 (by decide) ?_
                refine va_put (D := G) (ci := 10) (v := .int 0) (ty := .int) (C := RX10) (T := TX10) (N := 46) hx hb hts iG_X10 tyX10 tyX10_ok nmX10 hown hK hP hD hS 0 rfl rfl 11 (by decide) (hts _ w_1203) (fun _ h9 => h9) rfl (by decide +kernel) rfl rfl (Nat.le_of_ble_eq_true rfl) dX10_advance_141 (fun H locs hP hD hS => ?_)
                have hP : va_P G vwCl [(h0, oX10 b o_thrown o_taped o_size z3 z3 o_token 0 o_faultKind o_faultPlace o_lawNow o_walkSet o_oneWidow o_oneTurn o_askWorst o_mayWalk o_oftenAll o_oftenRoad o_oftenPegs), (b 4, .inl (cB, 900, .inl o_f4))] H := hP
                have hD : va_D A [(h0, oX10 b o_thrown o_taped o_size z3 z3 o_token 0 o_faultKind o_faultPlace o_lawNow o_walkSet o_oneWidow o_oneTurn o_askWorst o_mayWalk o_oftenAll o_oftenRoad o_oftenPegs), (b 4, .inl (cB, 900, .inl o_f4))] := hD
                have lp98 : ∀ (n99 : Nat) (z100 : Int32) (z101 : Int32), 0 ≤ z101.toInt → z101.toInt ≤ 900 → z3.toInt ≤ z101.toInt → z3.toInt < z101.toInt ∨ (48 ≤ seeI o_size.toInt o_f4 z101.toInt ∧ seeI o_size.toInt o_f4 z101.toInt ≤ 57) → 900 - z101.toInt < (n99 : Int) → ∀ (H : Heap) (locs : List Loc), va_P G vwCl [(h0, oX10 b o_thrown o_taped o_size z101 z3 o_token z100 o_faultKind o_faultPlace o_lawNow o_walkSet o_oneWidow o_oneTurn o_askWorst o_mayWalk o_oftenAll o_oftenRoad o_oftenPegs), (b 4, .inl (cB, 900, .inl o_f4))] H → va_D A [(h0, oX10 b o_thrown o_taped o_size z101 z3 o_token z100 o_faultKind o_faultPlace o_lawNow o_walkSet o_oneWidow o_oneTurn o_askWorst o_mayWalk o_oftenAll o_oftenRoad o_oftenPegs), (b 4, .inl (cB, 900, .inl o_f4))] → va_S A s.heap H locs → ∀ (ls : Array Slot), lv_has ls 2 [(1, .int r30), (0, .ref h0)] → W p l e ({ frames := 1, cells := 0, slots := 0, locals := 25 } : Room) s m ([.ref h0] : List Value).toArray below meth c H locs 0 0 Q (F0 m 144 ls []) := by
                  intro n99
                  induction n99 with
                  | zero =>
                    intro z100 z101 k102 k103 ax103 ay103 mm105
                    exact absurd mm105 (by have q9 := fb_rng z101; omega)
                  | succ n99 ih104 =>
                    intro z100 z101 k102 k103 ax103 ay103 mm105 H locs hP hD hS ls hl
                    refine lv_aload_n hx hb dX10_advance_144 rfl (lv_at hl 1 rfl) ?_
                    refine lv_aload_n hx hb dX10_advance_145 rfl (lv_at hl 1 rfl) ?_
                    refine va_get (D := G) (ci := 10) (v := .int z101) (C := RX10) (T := TX10) (N := 46) hx hb hts iG_X10 hown hK hP 0 rfl rfl 8 (by decide) (hts _ w_1200) (fun _ h9 => h9) rfl dX10_advance_146 ?_
                    refine k_i (wc := [(h0, oX10 b o_thrown o_taped o_size z101 z3 o_token z100 o_faultKind o_faultPlace o_lawNow o_walkSet o_oneWidow o_oneTurn o_askWorst o_mayWalk o_oftenAll o_oftenRoad o_oftenPegs), (b 4, .inl (cB, 900, .inl o_f4))]) (wr := []) hP hD hS hA [0, 1] [] rfl rfl rfl (by decide) (va_runV (As := [.int z101]) (rest := []) ⟨hx, hb, hml, hown, hts⟩ (f_X10_see l G cI cJ cZ cB cQ _ h0 z101 z101.toInt b o_thrown o_taped o_size z101 z3 o_token z100 o_faultKind o_faultPlace o_lawNow o_walkSet o_oneWidow o_oneTurn o_askWorst o_mayWalk o_oftenAll o_oftenRoad o_oftenPegs o_f4 rfl (by omega) hl_o_taped hh_o_taped hl_o_size hh_o_size k102 k103 k4 (by omega) hl_o_oneTurn hh_o_oneTurn) (cwV 1 hts (gV w_1363 w_1365 wp_84 w_11 w_1366) rfl rfl rfl ⟨rfl, hd_X10_see⟩ ⟨Nat.le_of_ble_eq_true rfl, Nat.le_of_ble_eq_true rfl⟩) (mV hK hZ hP hD [0, 1] rfl rfl [.int z101] 0 10 rfl rfl) rfl rfl hl.1 rfl (lv_room (Nat.le_of_ble_eq_true rfl)) dX10_advance_149 ⟨Nat.le_of_ble_eq_true rfl, Nat.le_of_ble_eq_true rfl⟩) (fun r106 u107 H locs hw108 hP hD hS => ?_)
                    try dsimp only at hw108
                    have hP : va_P G vwCl [(h0, oX10 b o_thrown o_taped o_size z101 z3 o_token z100 o_faultKind o_faultPlace o_lawNow o_walkSet o_oneWidow o_oneTurn o_askWorst o_mayWalk o_oftenAll o_oftenRoad o_oftenPegs), (b 4, .inl (cB, 900, .inl o_f4))] H := hP
                    have hD : va_D A [(h0, oX10 b o_thrown o_taped o_size z101 z3 o_token z100 o_faultKind o_faultPlace o_lawNow o_walkSet o_oneWidow o_oneTurn o_askWorst o_mayWalk o_oftenAll o_oftenRoad o_oftenPegs), (b 4, .inl (cB, 900, .inl o_f4))] := hD
                    rcases hw108 with ⟨rfl, s110, s111⟩ | ⟨s112, s113, s114, s115⟩
                    · skip
                      refine lv_i2l (v := (-1)) hx hb dX10_advance_152 (by decide) ?_
                      refine lv_ldc2 (v := 48) hx hb hown (hts _ w_1369) dX10_advance_153 ?_
                      refine lv_ldc2 (v := 57) hx hb hown (hts _ w_1370) dX10_advance_156 ?_
                      refine k_i (wc := []) (wr := [(h0, oX10 b o_thrown o_taped o_size z101 z3 o_token z100 o_faultKind o_faultPlace o_lawNow o_walkSet o_oneWidow o_oneTurn o_askWorst o_mayWalk o_oftenAll o_oftenRoad o_oftenPegs), (b 4, .inl (cB, 900, .inl o_f4))]) hP hD hS hA [] [0, 1] rfl rfl rfl (by decide) (va_runS (As := [.long (-1), .long 48, .long 57]) (rest := []) ⟨hx, hb, hml, hown, hts⟩ (f_X10_in l G cI cJ cZ cB cQ _ (-1) (-1) 48 48 57 57 kl_m1 kl_48 kl_57) (va_cwS 3 hts (gS w_1336 w_1337 w_11 w_1338) rfl rfl rfl hd_X10_in ⟨Nat.le_of_ble_eq_true rfl, Nat.le_of_ble_eq_true rfl⟩) (mS hK hZ hP hD [] rfl rfl [.long (-1), .long 48, .long 57]) rfl rfl hl.1 rfl (lv_room (Nat.le_of_ble_eq_true rfl)) dX10_advance_159 ⟨Nat.le_of_ble_eq_true rfl, Nat.le_of_ble_eq_true rfl⟩) (fun r117 u118 H locs hw119 hP hD hS => ?_)
                      try dsimp only at hw119
                      have hP : va_P G vwCl [(h0, oX10 b o_thrown o_taped o_size z101 z3 o_token z100 o_faultKind o_faultPlace o_lawNow o_walkSet o_oneWidow o_oneTurn o_askWorst o_mayWalk o_oftenAll o_oftenRoad o_oftenPegs), (b 4, .inl (cB, 900, .inl o_f4))] H := hP
                      have hD : va_D A [(h0, oX10 b o_thrown o_taped o_size z101 z3 o_token z100 o_faultKind o_faultPlace o_lawNow o_walkSet o_oneWidow o_oneTurn o_askWorst o_mayWalk o_oftenAll o_oftenRoad o_oftenPegs), (b 4, .inl (cB, 900, .inl o_f4))] := hD
                      rcases hw119 with ⟨rfl, a121, a122⟩ | ⟨rfl, a123⟩
                      · exact absurd (And.intro a121 a122) (by omega)
                      · skip
                        refine lv_if_eq (tgt := 206) hx hb dX10_advance_162 (by decide) (fun c124 => ?_) (fun c124 => absurd (by decide) c124)
                        refine lv_aload_n hx hb dX10_advance_206 rfl (lv_at hl 1 rfl) ?_
                        refine lv_iconst (v := 2) hx hb dX10_advance_207 (by decide) ?_
                        refine va_put (D := G) (ci := 10) (v := .int 2) (ty := .int) (C := RX10) (T := TX10) (N := 46) hx hb hts iG_X10 tyX10 tyX10_ok nmX10 hown hK hP hD hS 0 rfl rfl 10 (by decide) (hts _ w_1202) (fun _ h9 => h9) rfl (by decide +kernel) rfl rfl (Nat.le_of_ble_eq_true rfl) dX10_advance_208 (fun H locs hP hD hS => ?_)
                        have hP : va_P G vwCl [(h0, oX10 b o_thrown o_taped o_size z101 z3 2 z100 o_faultKind o_faultPlace o_lawNow o_walkSet o_oneWidow o_oneTurn o_askWorst o_mayWalk o_oftenAll o_oftenRoad o_oftenPegs), (b 4, .inl (cB, 900, .inl o_f4))] H := hP
                        have hD : va_D A [(h0, oX10 b o_thrown o_taped o_size z101 z3 2 z100 o_faultKind o_faultPlace o_lawNow o_walkSet o_oneWidow o_oneTurn o_askWorst o_mayWalk o_oftenAll o_oftenRoad o_oftenPegs), (b 4, .inl (cB, 900, .inl o_f4))] := hD
                        refine lv_goto (tgt := 239) hx hb dX10_advance_211 (by decide) ?_
                        exact hret _ _ _ _ (z101, z3, 2, z100) hP hD hS dX10_advance_239 (show 0 ≤ z101.toInt ∧ z101.toInt ≤ 900 ∧ 0 ≤ z3.toInt ∧ z3.toInt ≤ 900 ∧ o_at.toInt ≤ z3.toInt ∧ z3.toInt ≤ z101.toInt ∧ ((2 : Int32).toInt = 0 ∨ z3.toInt < z101.toInt) from ⟨k102, k103, k4, (by omega), (by omega), (by omega), (Or.inr (by omega))⟩)
                    · skip
                      obtain ⟨v125, ev125⟩ : ∃ y : Int64, r106.toInt64 = y := ⟨_, rfl⟩
                      have tv125 : v125.toInt = r106.toInt := ti_wide rfl ev125
                      refine lv_i2l (v := v125) hx hb dX10_advance_152 ev125 ?_
                      refine lv_ldc2 (v := 48) hx hb hown (hts _ w_1369) dX10_advance_153 ?_
                      refine lv_ldc2 (v := 57) hx hb hown (hts _ w_1370) dX10_advance_156 ?_
                      refine k_i (wc := []) (wr := [(h0, oX10 b o_thrown o_taped o_size z101 z3 o_token z100 o_faultKind o_faultPlace o_lawNow o_walkSet o_oneWidow o_oneTurn o_askWorst o_mayWalk o_oftenAll o_oftenRoad o_oftenPegs), (b 4, .inl (cB, 900, .inl o_f4))]) hP hD hS hA [] [0, 1] rfl rfl rfl (by decide) (va_runS (As := [.long v125, .long 48, .long 57]) (rest := []) ⟨hx, hb, hml, hown, hts⟩ (f_X10_in l G cI cJ cZ cB cQ _ v125 r106.toInt 48 48 57 57 tv125 kl_48 kl_57) (va_cwS 3 hts (gS w_1336 w_1337 w_11 w_1338) rfl rfl rfl hd_X10_in ⟨Nat.le_of_ble_eq_true rfl, Nat.le_of_ble_eq_true rfl⟩) (mS hK hZ hP hD [] rfl rfl [.long v125, .long 48, .long 57]) rfl rfl hl.1 rfl (lv_room (Nat.le_of_ble_eq_true rfl)) dX10_advance_159 ⟨Nat.le_of_ble_eq_true rfl, Nat.le_of_ble_eq_true rfl⟩) (fun r126 u127 H locs hw128 hP hD hS => ?_)
                      try dsimp only at hw128
                      have hP : va_P G vwCl [(h0, oX10 b o_thrown o_taped o_size z101 z3 o_token z100 o_faultKind o_faultPlace o_lawNow o_walkSet o_oneWidow o_oneTurn o_askWorst o_mayWalk o_oftenAll o_oftenRoad o_oftenPegs), (b 4, .inl (cB, 900, .inl o_f4))] H := hP
                      have hD : va_D A [(h0, oX10 b o_thrown o_taped o_size z101 z3 o_token z100 o_faultKind o_faultPlace o_lawNow o_walkSet o_oneWidow o_oneTurn o_askWorst o_mayWalk o_oftenAll o_oftenRoad o_oftenPegs), (b 4, .inl (cB, 900, .inl o_f4))] := hD
                      rcases hw128 with ⟨rfl, a130, a131⟩ | ⟨rfl, a132⟩
                      · skip
                        refine lv_if_eq (tgt := 206) hx hb dX10_advance_162 (by decide) (fun c133 => absurd c133 (by decide)) (fun c133 => ?_)
                        refine lv_aload_n hx hb dX10_advance_165 rfl (lv_at hl 1 rfl) ?_
                        refine lv_ldc (v := 99999) hx hb hown (hts _ w_1371) dX10_advance_166 ?_
                        refine lv_bipush (v := 10) hx hb dX10_advance_168 (by decide) ?_
                        refine lv_aload_n hx hb dX10_advance_170 rfl (lv_at hl 1 rfl) ?_
                        refine va_get (D := G) (ci := 10) (v := .int z100) (C := RX10) (T := TX10) (N := 46) hx hb hts iG_X10 hown hK hP 0 rfl rfl 11 (by decide) (hts _ w_1203) (fun _ h9 => h9) rfl dX10_advance_171 ?_
                        refine lv_imul hx hb dX10_advance_174 ?_
                        refine lv_topi (fun v134 ev134 => ?_)
                        refine lv_aload_n hx hb dX10_advance_175 rfl (lv_at hl 1 rfl) ?_
                        refine lv_aload_n hx hb dX10_advance_176 rfl (lv_at hl 1 rfl) ?_
                        refine va_get (D := G) (ci := 10) (v := .int z101) (C := RX10) (T := TX10) (N := 46) hx hb hts iG_X10 hown hK hP 0 rfl rfl 8 (by decide) (hts _ w_1200) (fun _ h9 => h9) rfl dX10_advance_177 ?_
                        refine k_i (wc := [(h0, oX10 b o_thrown o_taped o_size z101 z3 o_token z100 o_faultKind o_faultPlace o_lawNow o_walkSet o_oneWidow o_oneTurn o_askWorst o_mayWalk o_oftenAll o_oftenRoad o_oftenPegs), (b 4, .inl (cB, 900, .inl o_f4))]) (wr := []) hP hD hS hA [0, 1] [] rfl rfl rfl (by decide) (va_runV (As := [.int z101]) (rest := [.int v134, .int 99999, .ref h0]) ⟨hx, hb, hml, hown, hts⟩ (f_X10_see l G cI cJ cZ cB cQ _ h0 z101 z101.toInt b o_thrown o_taped o_size z101 z3 o_token z100 o_faultKind o_faultPlace o_lawNow o_walkSet o_oneWidow o_oneTurn o_askWorst o_mayWalk o_oftenAll o_oftenRoad o_oftenPegs o_f4 rfl (by omega) hl_o_taped hh_o_taped hl_o_size hh_o_size k102 (by omega) k4 (by omega) hl_o_oneTurn hh_o_oneTurn) (cwV 1 hts (gV w_1363 w_1365 wp_84 w_11 w_1366) rfl rfl rfl ⟨rfl, hd_X10_see⟩ ⟨Nat.le_of_ble_eq_true rfl, Nat.le_of_ble_eq_true rfl⟩) (mV hK hZ hP hD [0, 1] rfl rfl [.int z101] 0 10 rfl rfl) rfl rfl hl.1 rfl (lv_room (Nat.le_of_ble_eq_true rfl)) dX10_advance_180 ⟨Nat.le_of_ble_eq_true rfl, Nat.le_of_ble_eq_true rfl⟩) (fun r135 u136 H locs hw137 hP hD hS => ?_)
                        try dsimp only at hw137
                        have hP : va_P G vwCl [(h0, oX10 b o_thrown o_taped o_size z101 z3 o_token z100 o_faultKind o_faultPlace o_lawNow o_walkSet o_oneWidow o_oneTurn o_askWorst o_mayWalk o_oftenAll o_oftenRoad o_oftenPegs), (b 4, .inl (cB, 900, .inl o_f4))] H := hP
                        have hD : va_D A [(h0, oX10 b o_thrown o_taped o_size z101 z3 o_token z100 o_faultKind o_faultPlace o_lawNow o_walkSet o_oneWidow o_oneTurn o_askWorst o_mayWalk o_oftenAll o_oftenRoad o_oftenPegs), (b 4, .inl (cB, 900, .inl o_f4))] := hD
                        rcases hw137 with ⟨rfl, s139, s140⟩ | ⟨s141, s142, s143, s144⟩
                        · skip
                          refine lv_iadd hx hb dX10_advance_183 ?_
                          refine lv_topi (fun v145 ev145 => ?_)
                          refine lv_bipush (v := 48) hx hb dX10_advance_184 (by decide) ?_
                          refine lv_isub hx hb dX10_advance_186 ?_
                          refine lv_topi (fun v146 ev146 => ?_)
                          refine va_mmin hx hb (by rw [hml]; exact hl.1.symm) hown (hts _ w_1372) (hts _ w_502) (hts _ w_16) (hts _ w_503) (Nat.le_of_ble_eq_true rfl) (Nat.le_of_ble_eq_true rfl) (Nat.le_of_ble_eq_true rfl) (Nat.le_of_ble_eq_true rfl) dX10_advance_187 ?_
                          refine lv_topi (fun v147 ev147 => ?_)
                          refine va_put (D := G) (ci := 10) (v := .int v147) (ty := .int) (C := RX10) (T := TX10) (N := 46) hx hb hts iG_X10 tyX10 tyX10_ok nmX10 hown hK hP hD hS 0 rfl rfl 11 (by decide) (hts _ w_1203) (fun _ h9 => h9) rfl (by decide +kernel) rfl rfl (Nat.le_of_ble_eq_true rfl) dX10_advance_190 (fun H locs hP hD hS => ?_)
                          have hP : va_P G vwCl [(h0, oX10 b o_thrown o_taped o_size z101 z3 o_token v147 o_faultKind o_faultPlace o_lawNow o_walkSet o_oneWidow o_oneTurn o_askWorst o_mayWalk o_oftenAll o_oftenRoad o_oftenPegs), (b 4, .inl (cB, 900, .inl o_f4))] H := hP
                          have hD : va_D A [(h0, oX10 b o_thrown o_taped o_size z101 z3 o_token v147 o_faultKind o_faultPlace o_lawNow o_walkSet o_oneWidow o_oneTurn o_askWorst o_mayWalk o_oftenAll o_oftenRoad o_oftenPegs), (b 4, .inl (cB, 900, .inl o_f4))] := hD
                          refine lv_aload_n hx hb dX10_advance_193 rfl (lv_at hl 1 rfl) ?_
                          refine lv_dup hx hb dX10_advance_194 rfl ?_
                          refine va_get (D := G) (ci := 10) (v := .int z101) (C := RX10) (T := TX10) (N := 46) hx hb hts iG_X10 hown hK hP 0 rfl rfl 8 (by decide) (hts _ w_1200) (fun _ h9 => h9) rfl dX10_advance_195 ?_
                          refine lv_iconst (v := 1) hx hb dX10_advance_198 (by decide) ?_
                          refine lv_iadd hx hb dX10_advance_199 ?_
                          refine lv_topi (fun v148 ev148 => ?_)
                          have tv148 : v148.toInt = z101.toInt + 1 := ti_add rfl ki_1 ev148 (by omega) (by omega)
                          refine va_put (D := G) (ci := 10) (v := .int v148) (ty := .int) (C := RX10) (T := TX10) (N := 46) hx hb hts iG_X10 tyX10 tyX10_ok nmX10 hown hK hP hD hS 0 rfl rfl 8 (by decide) (hts _ w_1200) (fun _ h9 => h9) rfl (by decide +kernel) rfl rfl (Nat.le_of_ble_eq_true rfl) dX10_advance_200 (fun H locs hP hD hS => ?_)
                          have hP : va_P G vwCl [(h0, oX10 b o_thrown o_taped o_size v148 z3 o_token v147 o_faultKind o_faultPlace o_lawNow o_walkSet o_oneWidow o_oneTurn o_askWorst o_mayWalk o_oftenAll o_oftenRoad o_oftenPegs), (b 4, .inl (cB, 900, .inl o_f4))] H := hP
                          have hD : va_D A [(h0, oX10 b o_thrown o_taped o_size v148 z3 o_token v147 o_faultKind o_faultPlace o_lawNow o_walkSet o_oneWidow o_oneTurn o_askWorst o_mayWalk o_oftenAll o_oftenRoad o_oftenPegs), (b 4, .inl (cB, 900, .inl o_f4))] := hD
                          refine lv_goto (tgt := 144) hx hb dX10_advance_203 (by decide) ?_
                          exact ih104 v147 v148 (by omega) (by omega) (by omega) (by omega) (by omega) _ _ hP hD hS ls (lv_sub hl [0, 1] rfl)
                        · skip
                          refine lv_iadd hx hb dX10_advance_183 ?_
                          refine lv_topi (fun v149 ev149 => ?_)
                          refine lv_bipush (v := 48) hx hb dX10_advance_184 (by decide) ?_
                          refine lv_isub hx hb dX10_advance_186 ?_
                          refine lv_topi (fun v150 ev150 => ?_)
                          refine va_mmin hx hb (by rw [hml]; exact hl.1.symm) hown (hts _ w_1372) (hts _ w_502) (hts _ w_16) (hts _ w_503) (Nat.le_of_ble_eq_true rfl) (Nat.le_of_ble_eq_true rfl) (Nat.le_of_ble_eq_true rfl) (Nat.le_of_ble_eq_true rfl) dX10_advance_187 ?_
                          refine lv_topi (fun v151 ev151 => ?_)
                          refine va_put (D := G) (ci := 10) (v := .int v151) (ty := .int) (C := RX10) (T := TX10) (N := 46) hx hb hts iG_X10 tyX10 tyX10_ok nmX10 hown hK hP hD hS 0 rfl rfl 11 (by decide) (hts _ w_1203) (fun _ h9 => h9) rfl (by decide +kernel) rfl rfl (Nat.le_of_ble_eq_true rfl) dX10_advance_190 (fun H locs hP hD hS => ?_)
                          have hP : va_P G vwCl [(h0, oX10 b o_thrown o_taped o_size z101 z3 o_token v151 o_faultKind o_faultPlace o_lawNow o_walkSet o_oneWidow o_oneTurn o_askWorst o_mayWalk o_oftenAll o_oftenRoad o_oftenPegs), (b 4, .inl (cB, 900, .inl o_f4))] H := hP
                          have hD : va_D A [(h0, oX10 b o_thrown o_taped o_size z101 z3 o_token v151 o_faultKind o_faultPlace o_lawNow o_walkSet o_oneWidow o_oneTurn o_askWorst o_mayWalk o_oftenAll o_oftenRoad o_oftenPegs), (b 4, .inl (cB, 900, .inl o_f4))] := hD
                          refine lv_aload_n hx hb dX10_advance_193 rfl (lv_at hl 1 rfl) ?_
                          refine lv_dup hx hb dX10_advance_194 rfl ?_
                          refine va_get (D := G) (ci := 10) (v := .int z101) (C := RX10) (T := TX10) (N := 46) hx hb hts iG_X10 hown hK hP 0 rfl rfl 8 (by decide) (hts _ w_1200) (fun _ h9 => h9) rfl dX10_advance_195 ?_
                          refine lv_iconst (v := 1) hx hb dX10_advance_198 (by decide) ?_
                          refine lv_iadd hx hb dX10_advance_199 ?_
                          refine lv_topi (fun v152 ev152 => ?_)
                          have tv152 : v152.toInt = z101.toInt + 1 := ti_add rfl ki_1 ev152 (by omega) (by omega)
                          refine va_put (D := G) (ci := 10) (v := .int v152) (ty := .int) (C := RX10) (T := TX10) (N := 46) hx hb hts iG_X10 tyX10 tyX10_ok nmX10 hown hK hP hD hS 0 rfl rfl 8 (by decide) (hts _ w_1200) (fun _ h9 => h9) rfl (by decide +kernel) rfl rfl (Nat.le_of_ble_eq_true rfl) dX10_advance_200 (fun H locs hP hD hS => ?_)
                          have hP : va_P G vwCl [(h0, oX10 b o_thrown o_taped o_size v152 z3 o_token v151 o_faultKind o_faultPlace o_lawNow o_walkSet o_oneWidow o_oneTurn o_askWorst o_mayWalk o_oftenAll o_oftenRoad o_oftenPegs), (b 4, .inl (cB, 900, .inl o_f4))] H := hP
                          have hD : va_D A [(h0, oX10 b o_thrown o_taped o_size v152 z3 o_token v151 o_faultKind o_faultPlace o_lawNow o_walkSet o_oneWidow o_oneTurn o_askWorst o_mayWalk o_oftenAll o_oftenRoad o_oftenPegs), (b 4, .inl (cB, 900, .inl o_f4))] := hD
                          refine lv_goto (tgt := 144) hx hb dX10_advance_203 (by decide) ?_
                          exact ih104 v151 v152 (by omega) (by omega) (by omega) (by omega) (by omega) _ _ hP hD hS ls (lv_sub hl [0, 1] rfl)
                      · skip
                        refine lv_if_eq (tgt := 206) hx hb dX10_advance_162 (by decide) (fun c153 => ?_) (fun c153 => absurd (by decide) c153)
                        refine lv_aload_n hx hb dX10_advance_206 rfl (lv_at hl 1 rfl) ?_
                        refine lv_iconst (v := 2) hx hb dX10_advance_207 (by decide) ?_
                        refine va_put (D := G) (ci := 10) (v := .int 2) (ty := .int) (C := RX10) (T := TX10) (N := 46) hx hb hts iG_X10 tyX10 tyX10_ok nmX10 hown hK hP hD hS 0 rfl rfl 10 (by decide) (hts _ w_1202) (fun _ h9 => h9) rfl (by decide +kernel) rfl rfl (Nat.le_of_ble_eq_true rfl) dX10_advance_208 (fun H locs hP hD hS => ?_)
                        have hP : va_P G vwCl [(h0, oX10 b o_thrown o_taped o_size z101 z3 2 z100 o_faultKind o_faultPlace o_lawNow o_walkSet o_oneWidow o_oneTurn o_askWorst o_mayWalk o_oftenAll o_oftenRoad o_oftenPegs), (b 4, .inl (cB, 900, .inl o_f4))] H := hP
                        have hD : va_D A [(h0, oX10 b o_thrown o_taped o_size z101 z3 2 z100 o_faultKind o_faultPlace o_lawNow o_walkSet o_oneWidow o_oneTurn o_askWorst o_mayWalk o_oftenAll o_oftenRoad o_oftenPegs), (b 4, .inl (cB, 900, .inl o_f4))] := hD
                        refine lv_goto (tgt := 239) hx hb dX10_advance_211 (by decide) ?_
                        exact hret _ _ _ _ (z101, z3, 2, z100) hP hD hS dX10_advance_239 (show 0 ≤ z101.toInt ∧ z101.toInt ≤ 900 ∧ 0 ≤ z3.toInt ∧ z3.toInt ≤ 900 ∧ o_at.toInt ≤ z3.toInt ∧ z3.toInt ≤ z101.toInt ∧ ((2 : Int32).toInt = 0 ∨ z3.toInt < z101.toInt) from ⟨k102, (by omega), k4, (by omega), (by omega), (by omega), (Or.inr (by omega))⟩)
                exact lp98 901 0 z3 k4 (by omega) (by omega) (by omega) (by have q9 := fb_rng z3; omega) _ _ hP hD hS ls (lv_sub hl [0, 1] rfl)
              · skip
                refine lv_if_eq (tgt := 214) hx hb dX10_advance_136 (by decide) (fun c154 => ?_) (fun c154 => absurd (by decide) c154)
                refine lv_aload_n hx hb dX10_advance_214 rfl (lv_at hl 1 rfl) ?_
                refine lv_iload_n hx hb dX10_advance_215 rfl (lv_at hl 0 rfl) ?_
                refine lv_bipush (v := 59) hx hb dX10_advance_216 (by decide) ?_
                refine lv_icmp_ne (tgt := 225) hx hb dX10_advance_218 (by decide) (fun c155 => ?_) (fun c155 => ?_)
                · have c155 := i_ne rfl ki_59 c155
                  refine lv_iconst (v := 4) hx hb dX10_advance_225 (by decide) ?_
                  refine va_put (D := G) (ci := 10) (v := .int 4) (ty := .int) (C := RX10) (T := TX10) (N := 46) hx hb hts iG_X10 tyX10 tyX10_ok nmX10 hown hK hP hD hS 0 rfl rfl 10 (by decide) (hts _ w_1202) (fun _ h9 => h9) rfl (by decide +kernel) rfl rfl (Nat.le_of_ble_eq_true rfl) dX10_advance_226 (fun H locs hP hD hS => ?_)
                  have hP : va_P G vwCl [(h0, oX10 b o_thrown o_taped o_size z3 z3 4 o_value o_faultKind o_faultPlace o_lawNow o_walkSet o_oneWidow o_oneTurn o_askWorst o_mayWalk o_oftenAll o_oftenRoad o_oftenPegs), (b 4, .inl (cB, 900, .inl o_f4))] H := hP
                  have hD : va_D A [(h0, oX10 b o_thrown o_taped o_size z3 z3 4 o_value o_faultKind o_faultPlace o_lawNow o_walkSet o_oneWidow o_oneTurn o_askWorst o_mayWalk o_oftenAll o_oftenRoad o_oftenPegs), (b 4, .inl (cB, 900, .inl o_f4))] := hD
                  refine lv_aload_n hx hb dX10_advance_229 rfl (lv_at hl 1 rfl) ?_
                  refine lv_dup hx hb dX10_advance_230 rfl ?_
                  refine va_get (D := G) (ci := 10) (v := .int z3) (C := RX10) (T := TX10) (N := 46) hx hb hts iG_X10 hown hK hP 0 rfl rfl 8 (by decide) (hts _ w_1200) (fun _ h9 => h9) rfl dX10_advance_231 ?_
                  refine lv_iconst (v := 1) hx hb dX10_advance_234 (by decide) ?_
                  refine lv_iadd hx hb dX10_advance_235 ?_
                  refine lv_topi (fun v156 ev156 => ?_)
                  have tv156 : v156.toInt = z3.toInt + 1 := ti_add rfl ki_1 ev156 (by omega) (by omega)
                  refine va_put (D := G) (ci := 10) (v := .int v156) (ty := .int) (C := RX10) (T := TX10) (N := 46) hx hb hts iG_X10 tyX10 tyX10_ok nmX10 hown hK hP hD hS 0 rfl rfl 8 (by decide) (hts _ w_1200) (fun _ h9 => h9) rfl (by decide +kernel) rfl rfl (Nat.le_of_ble_eq_true rfl) dX10_advance_236 (fun H locs hP hD hS => ?_)
                  have hP : va_P G vwCl [(h0, oX10 b o_thrown o_taped o_size v156 z3 4 o_value o_faultKind o_faultPlace o_lawNow o_walkSet o_oneWidow o_oneTurn o_askWorst o_mayWalk o_oftenAll o_oftenRoad o_oftenPegs), (b 4, .inl (cB, 900, .inl o_f4))] H := hP
                  have hD : va_D A [(h0, oX10 b o_thrown o_taped o_size v156 z3 4 o_value o_faultKind o_faultPlace o_lawNow o_walkSet o_oneWidow o_oneTurn o_askWorst o_mayWalk o_oftenAll o_oftenRoad o_oftenPegs), (b 4, .inl (cB, 900, .inl o_f4))] := hD
                  exact hret _ _ _ _ (v156, z3, 4, o_value) hP hD hS dX10_advance_239 (show 0 ≤ v156.toInt ∧ v156.toInt ≤ 900 ∧ 0 ≤ z3.toInt ∧ z3.toInt ≤ 900 ∧ o_at.toInt ≤ z3.toInt ∧ z3.toInt ≤ v156.toInt ∧ ((4 : Int32).toInt = 0 ∨ z3.toInt < v156.toInt) from ⟨(by omega), (by omega), k4, (by omega), (by omega), (by omega), (Or.inr (by omega))⟩)
                · have c155 := i_eq rfl ki_59 c155
                  refine lv_iconst (v := 3) hx hb dX10_advance_221 (by decide) ?_
                  refine lv_goto (tgt := 226) hx hb dX10_advance_222 (by decide) ?_
                  refine va_put (D := G) (ci := 10) (v := .int 3) (ty := .int) (C := RX10) (T := TX10) (N := 46) hx hb hts iG_X10 tyX10 tyX10_ok nmX10 hown hK hP hD hS 0 rfl rfl 10 (by decide) (hts _ w_1202) (fun _ h9 => h9) rfl (by decide +kernel) rfl rfl (Nat.le_of_ble_eq_true rfl) dX10_advance_226 (fun H locs hP hD hS => ?_)
                  have hP : va_P G vwCl [(h0, oX10 b o_thrown o_taped o_size z3 z3 3 o_value o_faultKind o_faultPlace o_lawNow o_walkSet o_oneWidow o_oneTurn o_askWorst o_mayWalk o_oftenAll o_oftenRoad o_oftenPegs), (b 4, .inl (cB, 900, .inl o_f4))] H := hP
                  have hD : va_D A [(h0, oX10 b o_thrown o_taped o_size z3 z3 3 o_value o_faultKind o_faultPlace o_lawNow o_walkSet o_oneWidow o_oneTurn o_askWorst o_mayWalk o_oftenAll o_oftenRoad o_oftenPegs), (b 4, .inl (cB, 900, .inl o_f4))] := hD
                  refine lv_aload_n hx hb dX10_advance_229 rfl (lv_at hl 1 rfl) ?_
                  refine lv_dup hx hb dX10_advance_230 rfl ?_
                  refine va_get (D := G) (ci := 10) (v := .int z3) (C := RX10) (T := TX10) (N := 46) hx hb hts iG_X10 hown hK hP 0 rfl rfl 8 (by decide) (hts _ w_1200) (fun _ h9 => h9) rfl dX10_advance_231 ?_
                  refine lv_iconst (v := 1) hx hb dX10_advance_234 (by decide) ?_
                  refine lv_iadd hx hb dX10_advance_235 ?_
                  refine lv_topi (fun v157 ev157 => ?_)
                  have tv157 : v157.toInt = z3.toInt + 1 := ti_add rfl ki_1 ev157 (by omega) (by omega)
                  refine va_put (D := G) (ci := 10) (v := .int v157) (ty := .int) (C := RX10) (T := TX10) (N := 46) hx hb hts iG_X10 tyX10 tyX10_ok nmX10 hown hK hP hD hS 0 rfl rfl 8 (by decide) (hts _ w_1200) (fun _ h9 => h9) rfl (by decide +kernel) rfl rfl (Nat.le_of_ble_eq_true rfl) dX10_advance_236 (fun H locs hP hD hS => ?_)
                  have hP : va_P G vwCl [(h0, oX10 b o_thrown o_taped o_size v157 z3 3 o_value o_faultKind o_faultPlace o_lawNow o_walkSet o_oneWidow o_oneTurn o_askWorst o_mayWalk o_oftenAll o_oftenRoad o_oftenPegs), (b 4, .inl (cB, 900, .inl o_f4))] H := hP
                  have hD : va_D A [(h0, oX10 b o_thrown o_taped o_size v157 z3 3 o_value o_faultKind o_faultPlace o_lawNow o_walkSet o_oneWidow o_oneTurn o_askWorst o_mayWalk o_oftenAll o_oftenRoad o_oftenPegs), (b 4, .inl (cB, 900, .inl o_f4))] := hD
                  exact hret _ _ _ _ (v157, z3, 3, o_value) hP hD hS dX10_advance_239 (show 0 ≤ v157.toInt ∧ v157.toInt ≤ 900 ∧ 0 ≤ z3.toInt ∧ z3.toInt ≤ 900 ∧ o_at.toInt ≤ z3.toInt ∧ z3.toInt ≤ v157.toInt ∧ ((3 : Int32).toInt = 0 ∨ z3.toInt < v157.toInt) from ⟨(by omega), (by omega), k4, (by omega), (by omega), (by omega), (Or.inr (by omega))⟩)
        · skip
          refine lv_bipush (v := 10) hx hb dX10_advance_21 (by decide) ?_
          refine lv_icmp_ne (tgt := 39) hx hb dX10_advance_23 (by decide) (fun c158 => ?_) (fun c158 => ?_)
          · have c158 := i_ne rfl ki_10 c158
            refine lv_aload_n hx hb dX10_advance_39 rfl (lv_at hl 0 rfl) ?_
            refine lv_aload_n hx hb dX10_advance_40 rfl (lv_at hl 0 rfl) ?_
            refine va_get (D := G) (ci := 10) (v := .int z3) (C := RX10) (T := TX10) (N := 46) hx hb hts iG_X10 hown hK hP 0 rfl rfl 8 (by decide) (hts _ w_1200) (fun _ h9 => h9) rfl dX10_advance_41 ?_
            refine va_put (D := G) (ci := 10) (v := .int z3) (ty := .int) (C := RX10) (T := TX10) (N := 46) hx hb hts iG_X10 tyX10 tyX10_ok nmX10 hown hK hP hD hS 0 rfl rfl 9 (by decide) (hts _ w_1201) (fun _ h9 => h9) rfl (by decide +kernel) rfl rfl (Nat.le_of_ble_eq_true rfl) dX10_advance_44 (fun H locs hP hD hS => ?_)
            have hP : va_P G vwCl [(h0, oX10 b o_thrown o_taped o_size z3 z3 o_token o_value o_faultKind o_faultPlace o_lawNow o_walkSet o_oneWidow o_oneTurn o_askWorst o_mayWalk o_oftenAll o_oftenRoad o_oftenPegs), (b 4, .inl (cB, 900, .inl o_f4))] H := hP
            have hD : va_D A [(h0, oX10 b o_thrown o_taped o_size z3 z3 o_token o_value o_faultKind o_faultPlace o_lawNow o_walkSet o_oneWidow o_oneTurn o_askWorst o_mayWalk o_oftenAll o_oftenRoad o_oftenPegs), (b 4, .inl (cB, 900, .inl o_f4))] := hD
            refine lv_aload_n hx hb dX10_advance_47 rfl (lv_at hl 0 rfl) ?_
            refine lv_aload_n hx hb dX10_advance_48 rfl (lv_at hl 0 rfl) ?_
            refine va_get (D := G) (ci := 10) (v := .int z3) (C := RX10) (T := TX10) (N := 46) hx hb hts iG_X10 hown hK hP 0 rfl rfl 8 (by decide) (hts _ w_1200) (fun _ h9 => h9) rfl dX10_advance_49 ?_
            refine k_i (wc := [(h0, oX10 b o_thrown o_taped o_size z3 z3 o_token o_value o_faultKind o_faultPlace o_lawNow o_walkSet o_oneWidow o_oneTurn o_askWorst o_mayWalk o_oftenAll o_oftenRoad o_oftenPegs), (b 4, .inl (cB, 900, .inl o_f4))]) (wr := []) hP hD hS hA [0, 1] [] rfl rfl rfl (by decide) (va_runV (As := [.int z3]) (rest := []) ⟨hx, hb, hml, hown, hts⟩ (f_X10_see l G cI cJ cZ cB cQ _ h0 z3 z3.toInt b o_thrown o_taped o_size z3 z3 o_token o_value o_faultKind o_faultPlace o_lawNow o_walkSet o_oneWidow o_oneTurn o_askWorst o_mayWalk o_oftenAll o_oftenRoad o_oftenPegs o_f4 rfl (by omega) hl_o_taped hh_o_taped hl_o_size hh_o_size k4 (by omega) k4 (by omega) hl_o_oneTurn hh_o_oneTurn) (cwV 1 hts (gV w_1363 w_1365 wp_84 w_11 w_1366) rfl rfl rfl ⟨rfl, hd_X10_see⟩ ⟨Nat.le_of_ble_eq_true rfl, Nat.le_of_ble_eq_true rfl⟩) (mV hK hZ hP hD [0, 1] rfl rfl [.int z3] 0 10 rfl rfl) rfl rfl hl.1 rfl (lv_room (Nat.le_of_ble_eq_true rfl)) dX10_advance_52 ⟨Nat.le_of_ble_eq_true rfl, Nat.le_of_ble_eq_true rfl⟩) (fun r159 u160 H locs hw161 hP hD hS => ?_)
            try dsimp only at hw161
            have hP : va_P G vwCl [(h0, oX10 b o_thrown o_taped o_size z3 z3 o_token o_value o_faultKind o_faultPlace o_lawNow o_walkSet o_oneWidow o_oneTurn o_askWorst o_mayWalk o_oftenAll o_oftenRoad o_oftenPegs), (b 4, .inl (cB, 900, .inl o_f4))] H := hP
            have hD : va_D A [(h0, oX10 b o_thrown o_taped o_size z3 z3 o_token o_value o_faultKind o_faultPlace o_lawNow o_walkSet o_oneWidow o_oneTurn o_askWorst o_mayWalk o_oftenAll o_oftenRoad o_oftenPegs), (b 4, .inl (cB, 900, .inl o_f4))] := hD
            rcases hw161 with ⟨rfl, s163, s164⟩ | ⟨s165, s166, s167, s168⟩
            · skip
              refine lv_istore_n (lv' := [(1, .int (-1)), (0, .ref h0)]) hx hb dX10_advance_55 rfl hl (by decide) rfl (fun ls hl => ?_)
              refine lv_iload_n hx hb dX10_advance_56 rfl (lv_at hl 0 rfl) ?_
              refine lv_iconst (v := (-1)) hx hb dX10_advance_57 (by decide) ?_
              refine lv_icmp_ne (tgt := 69) hx hb dX10_advance_58 (by decide) (fun c169 => absurd (by decide) c169) (fun c169 => ?_)
              refine lv_aload_n hx hb dX10_advance_61 rfl (lv_at hl 1 rfl) ?_
              refine lv_iconst (v := 0) hx hb dX10_advance_62 (by decide) ?_
              refine va_put (D := G) (ci := 10) (v := .int 0) (ty := .int) (C := RX10) (T := TX10) (N := 46) hx hb hts iG_X10 tyX10 tyX10_ok nmX10 hown hK hP hD hS 0 rfl rfl 10 (by decide) (hts _ w_1202) (fun _ h9 => h9) rfl (by decide +kernel) rfl rfl (Nat.le_of_ble_eq_true rfl) dX10_advance_63 (fun H locs hP hD hS => ?_)
              have hP : va_P G vwCl [(h0, oX10 b o_thrown o_taped o_size z3 z3 0 o_value o_faultKind o_faultPlace o_lawNow o_walkSet o_oneWidow o_oneTurn o_askWorst o_mayWalk o_oftenAll o_oftenRoad o_oftenPegs), (b 4, .inl (cB, 900, .inl o_f4))] H := hP
              have hD : va_D A [(h0, oX10 b o_thrown o_taped o_size z3 z3 0 o_value o_faultKind o_faultPlace o_lawNow o_walkSet o_oneWidow o_oneTurn o_askWorst o_mayWalk o_oftenAll o_oftenRoad o_oftenPegs), (b 4, .inl (cB, 900, .inl o_f4))] := hD
              refine lv_goto (tgt := 239) hx hb dX10_advance_66 (by decide) ?_
              exact hret _ _ _ _ (z3, z3, 0, o_value) hP hD hS dX10_advance_239 (show 0 ≤ z3.toInt ∧ z3.toInt ≤ 900 ∧ 0 ≤ z3.toInt ∧ z3.toInt ≤ 900 ∧ o_at.toInt ≤ z3.toInt ∧ z3.toInt ≤ z3.toInt ∧ ((0 : Int32).toInt = 0 ∨ z3.toInt < z3.toInt) from ⟨k4, (by omega), k4, (by omega), (by omega), (by omega), (Or.inl ki_0)⟩)
            · skip
              refine lv_istore_n (lv' := [(1, .int r159), (0, .ref h0)]) hx hb dX10_advance_55 rfl hl (by decide) rfl (fun ls hl => ?_)
              refine lv_iload_n hx hb dX10_advance_56 rfl (lv_at hl 0 rfl) ?_
              refine lv_iconst (v := (-1)) hx hb dX10_advance_57 (by decide) ?_
              refine lv_icmp_ne (tgt := 69) hx hb dX10_advance_58 (by decide) (fun c170 => ?_) (fun c170 => absurd (i_eq rfl ki_m1 c170) (by omega))
              have c170 := i_ne rfl ki_m1 c170
              refine lv_iload_n hx hb dX10_advance_69 rfl (lv_at hl 0 rfl) ?_
              obtain ⟨v171, ev171⟩ : ∃ y : Int64, r159.toInt64 = y := ⟨_, rfl⟩
              have tv171 : v171.toInt = r159.toInt := ti_wide rfl ev171
              refine lv_i2l (v := v171) hx hb dX10_advance_70 ev171 ?_
              refine lv_ldc2 (v := 97) hx hb hown (hts _ w_1367) dX10_advance_71 ?_
              refine lv_ldc2 (v := 122) hx hb hown (hts _ w_1368) dX10_advance_74 ?_
              refine k_i (wc := []) (wr := [(h0, oX10 b o_thrown o_taped o_size z3 z3 o_token o_value o_faultKind o_faultPlace o_lawNow o_walkSet o_oneWidow o_oneTurn o_askWorst o_mayWalk o_oftenAll o_oftenRoad o_oftenPegs), (b 4, .inl (cB, 900, .inl o_f4))]) hP hD hS hA [] [0, 1] rfl rfl rfl (by decide) (va_runS (As := [.long v171, .long 97, .long 122]) (rest := []) ⟨hx, hb, hml, hown, hts⟩ (f_X10_in l G cI cJ cZ cB cQ _ v171 r159.toInt 97 97 122 122 tv171 kl_97 kl_122) (va_cwS 3 hts (gS w_1336 w_1337 w_11 w_1338) rfl rfl rfl hd_X10_in ⟨Nat.le_of_ble_eq_true rfl, Nat.le_of_ble_eq_true rfl⟩) (mS hK hZ hP hD [] rfl rfl [.long v171, .long 97, .long 122]) rfl rfl hl.1 rfl (lv_room (Nat.le_of_ble_eq_true rfl)) dX10_advance_77 ⟨Nat.le_of_ble_eq_true rfl, Nat.le_of_ble_eq_true rfl⟩) (fun r172 u173 H locs hw174 hP hD hS => ?_)
              try dsimp only at hw174
              have hP : va_P G vwCl [(h0, oX10 b o_thrown o_taped o_size z3 z3 o_token o_value o_faultKind o_faultPlace o_lawNow o_walkSet o_oneWidow o_oneTurn o_askWorst o_mayWalk o_oftenAll o_oftenRoad o_oftenPegs), (b 4, .inl (cB, 900, .inl o_f4))] H := hP
              have hD : va_D A [(h0, oX10 b o_thrown o_taped o_size z3 z3 o_token o_value o_faultKind o_faultPlace o_lawNow o_walkSet o_oneWidow o_oneTurn o_askWorst o_mayWalk o_oftenAll o_oftenRoad o_oftenPegs), (b 4, .inl (cB, 900, .inl o_f4))] := hD
              rcases hw174 with ⟨rfl, a176, a177⟩ | ⟨rfl, a178⟩
              · skip
                refine lv_if_eq (tgt := 125) hx hb dX10_advance_80 (by decide) (fun c179 => absurd c179 (by decide)) (fun c179 => ?_)
                have lp180 : ∀ (n181 : Nat) (z182 : Int32), 0 ≤ z182.toInt → z182.toInt ≤ 900 → z3.toInt ≤ z182.toInt → z3.toInt < z182.toInt ∨ (97 ≤ seeI o_size.toInt o_f4 z182.toInt ∧ seeI o_size.toInt o_f4 z182.toInt ≤ 122) → 900 - z182.toInt < (n181 : Int) → ∀ (H : Heap) (locs : List Loc), va_P G vwCl [(h0, oX10 b o_thrown o_taped o_size z182 z3 o_token o_value o_faultKind o_faultPlace o_lawNow o_walkSet o_oneWidow o_oneTurn o_askWorst o_mayWalk o_oftenAll o_oftenRoad o_oftenPegs), (b 4, .inl (cB, 900, .inl o_f4))] H → va_D A [(h0, oX10 b o_thrown o_taped o_size z182 z3 o_token o_value o_faultKind o_faultPlace o_lawNow o_walkSet o_oneWidow o_oneTurn o_askWorst o_mayWalk o_oftenAll o_oftenRoad o_oftenPegs), (b 4, .inl (cB, 900, .inl o_f4))] → va_S A s.heap H locs → ∀ (ls : Array Slot), lv_has ls 2 [(1, .int r159), (0, .ref h0)] → W p l e ({ frames := 1, cells := 0, slots := 0, locals := 25 } : Room) s m ([.ref h0] : List Value).toArray below meth c H locs 0 0 Q (F0 m 83 ls []) := by
                  intro n181
                  induction n181 with
                  | zero =>
                    intro z182 k183 k184 ax184 ay184 mm186
                    exact absurd mm186 (by have q9 := fb_rng z182; omega)
                  | succ n181 ih185 =>
                    intro z182 k183 k184 ax184 ay184 mm186 H locs hP hD hS ls hl
                    refine lv_aload_n hx hb dX10_advance_83 rfl (lv_at hl 1 rfl) ?_
                    refine lv_aload_n hx hb dX10_advance_84 rfl (lv_at hl 1 rfl) ?_
                    refine va_get (D := G) (ci := 10) (v := .int z182) (C := RX10) (T := TX10) (N := 46) hx hb hts iG_X10 hown hK hP 0 rfl rfl 8 (by decide) (hts _ w_1200) (fun _ h9 => h9) rfl dX10_advance_85 ?_
                    refine k_i (wc := [(h0, oX10 b o_thrown o_taped o_size z182 z3 o_token o_value o_faultKind o_faultPlace o_lawNow o_walkSet o_oneWidow o_oneTurn o_askWorst o_mayWalk o_oftenAll o_oftenRoad o_oftenPegs), (b 4, .inl (cB, 900, .inl o_f4))]) (wr := []) hP hD hS hA [0, 1] [] rfl rfl rfl (by decide) (va_runV (As := [.int z182]) (rest := []) ⟨hx, hb, hml, hown, hts⟩ (f_X10_see l G cI cJ cZ cB cQ _ h0 z182 z182.toInt b o_thrown o_taped o_size z182 z3 o_token o_value o_faultKind o_faultPlace o_lawNow o_walkSet o_oneWidow o_oneTurn o_askWorst o_mayWalk o_oftenAll o_oftenRoad o_oftenPegs o_f4 rfl (by omega) hl_o_taped hh_o_taped hl_o_size hh_o_size k183 k184 k4 (by omega) hl_o_oneTurn hh_o_oneTurn) (cwV 1 hts (gV w_1363 w_1365 wp_84 w_11 w_1366) rfl rfl rfl ⟨rfl, hd_X10_see⟩ ⟨Nat.le_of_ble_eq_true rfl, Nat.le_of_ble_eq_true rfl⟩) (mV hK hZ hP hD [0, 1] rfl rfl [.int z182] 0 10 rfl rfl) rfl rfl hl.1 rfl (lv_room (Nat.le_of_ble_eq_true rfl)) dX10_advance_88 ⟨Nat.le_of_ble_eq_true rfl, Nat.le_of_ble_eq_true rfl⟩) (fun r187 u188 H locs hw189 hP hD hS => ?_)
                    try dsimp only at hw189
                    have hP : va_P G vwCl [(h0, oX10 b o_thrown o_taped o_size z182 z3 o_token o_value o_faultKind o_faultPlace o_lawNow o_walkSet o_oneWidow o_oneTurn o_askWorst o_mayWalk o_oftenAll o_oftenRoad o_oftenPegs), (b 4, .inl (cB, 900, .inl o_f4))] H := hP
                    have hD : va_D A [(h0, oX10 b o_thrown o_taped o_size z182 z3 o_token o_value o_faultKind o_faultPlace o_lawNow o_walkSet o_oneWidow o_oneTurn o_askWorst o_mayWalk o_oftenAll o_oftenRoad o_oftenPegs), (b 4, .inl (cB, 900, .inl o_f4))] := hD
                    rcases hw189 with ⟨rfl, s191, s192⟩ | ⟨s193, s194, s195, s196⟩
                    · skip
                      refine lv_i2l (v := (-1)) hx hb dX10_advance_91 (by decide) ?_
                      refine lv_ldc2 (v := 97) hx hb hown (hts _ w_1367) dX10_advance_92 ?_
                      refine lv_ldc2 (v := 122) hx hb hown (hts _ w_1368) dX10_advance_95 ?_
                      refine k_i (wc := []) (wr := [(h0, oX10 b o_thrown o_taped o_size z182 z3 o_token o_value o_faultKind o_faultPlace o_lawNow o_walkSet o_oneWidow o_oneTurn o_askWorst o_mayWalk o_oftenAll o_oftenRoad o_oftenPegs), (b 4, .inl (cB, 900, .inl o_f4))]) hP hD hS hA [] [0, 1] rfl rfl rfl (by decide) (va_runS (As := [.long (-1), .long 97, .long 122]) (rest := []) ⟨hx, hb, hml, hown, hts⟩ (f_X10_in l G cI cJ cZ cB cQ _ (-1) (-1) 97 97 122 122 kl_m1 kl_97 kl_122) (va_cwS 3 hts (gS w_1336 w_1337 w_11 w_1338) rfl rfl rfl hd_X10_in ⟨Nat.le_of_ble_eq_true rfl, Nat.le_of_ble_eq_true rfl⟩) (mS hK hZ hP hD [] rfl rfl [.long (-1), .long 97, .long 122]) rfl rfl hl.1 rfl (lv_room (Nat.le_of_ble_eq_true rfl)) dX10_advance_98 ⟨Nat.le_of_ble_eq_true rfl, Nat.le_of_ble_eq_true rfl⟩) (fun r198 u199 H locs hw200 hP hD hS => ?_)
                      try dsimp only at hw200
                      have hP : va_P G vwCl [(h0, oX10 b o_thrown o_taped o_size z182 z3 o_token o_value o_faultKind o_faultPlace o_lawNow o_walkSet o_oneWidow o_oneTurn o_askWorst o_mayWalk o_oftenAll o_oftenRoad o_oftenPegs), (b 4, .inl (cB, 900, .inl o_f4))] H := hP
                      have hD : va_D A [(h0, oX10 b o_thrown o_taped o_size z182 z3 o_token o_value o_faultKind o_faultPlace o_lawNow o_walkSet o_oneWidow o_oneTurn o_askWorst o_mayWalk o_oftenAll o_oftenRoad o_oftenPegs), (b 4, .inl (cB, 900, .inl o_f4))] := hD
                      rcases hw200 with ⟨rfl, a202, a203⟩ | ⟨rfl, a204⟩
                      · exact absurd (And.intro a202 a203) (by omega)
                      · skip
                        refine lv_if_eq (tgt := 117) hx hb dX10_advance_101 (by decide) (fun c205 => ?_) (fun c205 => absurd (by decide) c205)
                        refine lv_aload_n hx hb dX10_advance_117 rfl (lv_at hl 1 rfl) ?_
                        refine lv_iconst (v := 1) hx hb dX10_advance_118 (by decide) ?_
                        refine va_put (D := G) (ci := 10) (v := .int 1) (ty := .int) (C := RX10) (T := TX10) (N := 46) hx hb hts iG_X10 tyX10 tyX10_ok nmX10 hown hK hP hD hS 0 rfl rfl 10 (by decide) (hts _ w_1202) (fun _ h9 => h9) rfl (by decide +kernel) rfl rfl (Nat.le_of_ble_eq_true rfl) dX10_advance_119 (fun H locs hP hD hS => ?_)
                        have hP : va_P G vwCl [(h0, oX10 b o_thrown o_taped o_size z182 z3 1 o_value o_faultKind o_faultPlace o_lawNow o_walkSet o_oneWidow o_oneTurn o_askWorst o_mayWalk o_oftenAll o_oftenRoad o_oftenPegs), (b 4, .inl (cB, 900, .inl o_f4))] H := hP
                        have hD : va_D A [(h0, oX10 b o_thrown o_taped o_size z182 z3 1 o_value o_faultKind o_faultPlace o_lawNow o_walkSet o_oneWidow o_oneTurn o_askWorst o_mayWalk o_oftenAll o_oftenRoad o_oftenPegs), (b 4, .inl (cB, 900, .inl o_f4))] := hD
                        refine lv_goto (tgt := 239) hx hb dX10_advance_122 (by decide) ?_
                        exact hret _ _ _ _ (z182, z3, 1, o_value) hP hD hS dX10_advance_239 (show 0 ≤ z182.toInt ∧ z182.toInt ≤ 900 ∧ 0 ≤ z3.toInt ∧ z3.toInt ≤ 900 ∧ o_at.toInt ≤ z3.toInt ∧ z3.toInt ≤ z182.toInt ∧ ((1 : Int32).toInt = 0 ∨ z3.toInt < z182.toInt) from ⟨k183, k184, k4, (by omega), (by omega), (by omega), (Or.inr (by omega))⟩)
                    · skip
                      obtain ⟨v206, ev206⟩ : ∃ y : Int64, r187.toInt64 = y := ⟨_, rfl⟩
                      have tv206 : v206.toInt = r187.toInt := ti_wide rfl ev206
                      refine lv_i2l (v := v206) hx hb dX10_advance_91 ev206 ?_
                      refine lv_ldc2 (v := 97) hx hb hown (hts _ w_1367) dX10_advance_92 ?_
                      refine lv_ldc2 (v := 122) hx hb hown (hts _ w_1368) dX10_advance_95 ?_
                      refine k_i (wc := []) (wr := [(h0, oX10 b o_thrown o_taped o_size z182 z3 o_token o_value o_faultKind o_faultPlace o_lawNow o_walkSet o_oneWidow o_oneTurn o_askWorst o_mayWalk o_oftenAll o_oftenRoad o_oftenPegs), (b 4, .inl (cB, 900, .inl o_f4))]) hP hD hS hA [] [0, 1] rfl rfl rfl (by decide) (va_runS (As := [.long v206, .long 97, .long 122]) (rest := []) ⟨hx, hb, hml, hown, hts⟩ (f_X10_in l G cI cJ cZ cB cQ _ v206 r187.toInt 97 97 122 122 tv206 kl_97 kl_122) (va_cwS 3 hts (gS w_1336 w_1337 w_11 w_1338) rfl rfl rfl hd_X10_in ⟨Nat.le_of_ble_eq_true rfl, Nat.le_of_ble_eq_true rfl⟩) (mS hK hZ hP hD [] rfl rfl [.long v206, .long 97, .long 122]) rfl rfl hl.1 rfl (lv_room (Nat.le_of_ble_eq_true rfl)) dX10_advance_98 ⟨Nat.le_of_ble_eq_true rfl, Nat.le_of_ble_eq_true rfl⟩) (fun r207 u208 H locs hw209 hP hD hS => ?_)
                      try dsimp only at hw209
                      have hP : va_P G vwCl [(h0, oX10 b o_thrown o_taped o_size z182 z3 o_token o_value o_faultKind o_faultPlace o_lawNow o_walkSet o_oneWidow o_oneTurn o_askWorst o_mayWalk o_oftenAll o_oftenRoad o_oftenPegs), (b 4, .inl (cB, 900, .inl o_f4))] H := hP
                      have hD : va_D A [(h0, oX10 b o_thrown o_taped o_size z182 z3 o_token o_value o_faultKind o_faultPlace o_lawNow o_walkSet o_oneWidow o_oneTurn o_askWorst o_mayWalk o_oftenAll o_oftenRoad o_oftenPegs), (b 4, .inl (cB, 900, .inl o_f4))] := hD
                      rcases hw209 with ⟨rfl, a211, a212⟩ | ⟨rfl, a213⟩
                      · skip
                        refine lv_if_eq (tgt := 117) hx hb dX10_advance_101 (by decide) (fun c214 => absurd c214 (by decide)) (fun c214 => ?_)
                        refine lv_aload_n hx hb dX10_advance_104 rfl (lv_at hl 1 rfl) ?_
                        refine lv_dup hx hb dX10_advance_105 rfl ?_
                        refine va_get (D := G) (ci := 10) (v := .int z182) (C := RX10) (T := TX10) (N := 46) hx hb hts iG_X10 hown hK hP 0 rfl rfl 8 (by decide) (hts _ w_1200) (fun _ h9 => h9) rfl dX10_advance_106 ?_
                        refine lv_iconst (v := 1) hx hb dX10_advance_109 (by decide) ?_
                        refine lv_iadd hx hb dX10_advance_110 ?_
                        refine lv_topi (fun v215 ev215 => ?_)
                        have tv215 : v215.toInt = z182.toInt + 1 := ti_add rfl ki_1 ev215 (by omega) (by omega)
                        refine va_put (D := G) (ci := 10) (v := .int v215) (ty := .int) (C := RX10) (T := TX10) (N := 46) hx hb hts iG_X10 tyX10 tyX10_ok nmX10 hown hK hP hD hS 0 rfl rfl 8 (by decide) (hts _ w_1200) (fun _ h9 => h9) rfl (by decide +kernel) rfl rfl (Nat.le_of_ble_eq_true rfl) dX10_advance_111 (fun H locs hP hD hS => ?_)
                        have hP : va_P G vwCl [(h0, oX10 b o_thrown o_taped o_size v215 z3 o_token o_value o_faultKind o_faultPlace o_lawNow o_walkSet o_oneWidow o_oneTurn o_askWorst o_mayWalk o_oftenAll o_oftenRoad o_oftenPegs), (b 4, .inl (cB, 900, .inl o_f4))] H := hP
                        have hD : va_D A [(h0, oX10 b o_thrown o_taped o_size v215 z3 o_token o_value o_faultKind o_faultPlace o_lawNow o_walkSet o_oneWidow o_oneTurn o_askWorst o_mayWalk o_oftenAll o_oftenRoad o_oftenPegs), (b 4, .inl (cB, 900, .inl o_f4))] := hD
                        refine lv_goto (tgt := 83) hx hb dX10_advance_114 (by decide) ?_
                        exact ih185 v215 (by omega) (by omega) (by omega) (by omega) (by omega) _ _ hP hD hS ls (lv_sub hl [0, 1] rfl)
                      · skip
                        refine lv_if_eq (tgt := 117) hx hb dX10_advance_101 (by decide) (fun c216 => ?_) (fun c216 => absurd (by decide) c216)
                        refine lv_aload_n hx hb dX10_advance_117 rfl (lv_at hl 1 rfl) ?_
                        refine lv_iconst (v := 1) hx hb dX10_advance_118 (by decide) ?_
                        refine va_put (D := G) (ci := 10) (v := .int 1) (ty := .int) (C := RX10) (T := TX10) (N := 46) hx hb hts iG_X10 tyX10 tyX10_ok nmX10 hown hK hP hD hS 0 rfl rfl 10 (by decide) (hts _ w_1202) (fun _ h9 => h9) rfl (by decide +kernel) rfl rfl (Nat.le_of_ble_eq_true rfl) dX10_advance_119 (fun H locs hP hD hS => ?_)
                        have hP : va_P G vwCl [(h0, oX10 b o_thrown o_taped o_size z182 z3 1 o_value o_faultKind o_faultPlace o_lawNow o_walkSet o_oneWidow o_oneTurn o_askWorst o_mayWalk o_oftenAll o_oftenRoad o_oftenPegs), (b 4, .inl (cB, 900, .inl o_f4))] H := hP
                        have hD : va_D A [(h0, oX10 b o_thrown o_taped o_size z182 z3 1 o_value o_faultKind o_faultPlace o_lawNow o_walkSet o_oneWidow o_oneTurn o_askWorst o_mayWalk o_oftenAll o_oftenRoad o_oftenPegs), (b 4, .inl (cB, 900, .inl o_f4))] := hD
                        refine lv_goto (tgt := 239) hx hb dX10_advance_122 (by decide) ?_
                        exact hret _ _ _ _ (z182, z3, 1, o_value) hP hD hS dX10_advance_239 (show 0 ≤ z182.toInt ∧ z182.toInt ≤ 900 ∧ 0 ≤ z3.toInt ∧ z3.toInt ≤ 900 ∧ o_at.toInt ≤ z3.toInt ∧ z3.toInt ≤ z182.toInt ∧ ((1 : Int32).toInt = 0 ∨ z3.toInt < z182.toInt) from ⟨k183, (by omega), k4, (by omega), (by omega), (by omega), (Or.inr (by omega))⟩)
                exact lp180 901 z3 k4 (by omega) (by omega) (by omega) (by have q9 := fb_rng z3; omega) _ _ hP hD hS ls (lv_sub hl [0, 1] rfl)
              · skip
                refine lv_if_eq (tgt := 125) hx hb dX10_advance_80 (by decide) (fun c217 => ?_) (fun c217 => absurd (by decide) c217)
                refine lv_iload_n hx hb dX10_advance_125 rfl (lv_at hl 0 rfl) ?_
                obtain ⟨v218, ev218⟩ : ∃ y : Int64, r159.toInt64 = y := ⟨_, rfl⟩
                have tv218 : v218.toInt = r159.toInt := ti_wide rfl ev218
                refine lv_i2l (v := v218) hx hb dX10_advance_126 ev218 ?_
                refine lv_ldc2 (v := 48) hx hb hown (hts _ w_1369) dX10_advance_127 ?_
                refine lv_ldc2 (v := 57) hx hb hown (hts _ w_1370) dX10_advance_130 ?_
                refine k_i (wc := []) (wr := [(h0, oX10 b o_thrown o_taped o_size z3 z3 o_token o_value o_faultKind o_faultPlace o_lawNow o_walkSet o_oneWidow o_oneTurn o_askWorst o_mayWalk o_oftenAll o_oftenRoad o_oftenPegs), (b 4, .inl (cB, 900, .inl o_f4))]) hP hD hS hA [] [0, 1] rfl rfl rfl (by decide) (va_runS (As := [.long v218, .long 48, .long 57]) (rest := []) ⟨hx, hb, hml, hown, hts⟩ (f_X10_in l G cI cJ cZ cB cQ _ v218 r159.toInt 48 48 57 57 tv218 kl_48 kl_57) (va_cwS 3 hts (gS w_1336 w_1337 w_11 w_1338) rfl rfl rfl hd_X10_in ⟨Nat.le_of_ble_eq_true rfl, Nat.le_of_ble_eq_true rfl⟩) (mS hK hZ hP hD [] rfl rfl [.long v218, .long 48, .long 57]) rfl rfl hl.1 rfl (lv_room (Nat.le_of_ble_eq_true rfl)) dX10_advance_133 ⟨Nat.le_of_ble_eq_true rfl, Nat.le_of_ble_eq_true rfl⟩) (fun r219 u220 H locs hw221 hP hD hS => ?_)
                try dsimp only at hw221
                have hP : va_P G vwCl [(h0, oX10 b o_thrown o_taped o_size z3 z3 o_token o_value o_faultKind o_faultPlace o_lawNow o_walkSet o_oneWidow o_oneTurn o_askWorst o_mayWalk o_oftenAll o_oftenRoad o_oftenPegs), (b 4, .inl (cB, 900, .inl o_f4))] H := hP
                have hD : va_D A [(h0, oX10 b o_thrown o_taped o_size z3 z3 o_token o_value o_faultKind o_faultPlace o_lawNow o_walkSet o_oneWidow o_oneTurn o_askWorst o_mayWalk o_oftenAll o_oftenRoad o_oftenPegs), (b 4, .inl (cB, 900, .inl o_f4))] := hD
                rcases hw221 with ⟨rfl, a223, a224⟩ | ⟨rfl, a225⟩
                · skip
                  refine lv_if_eq (tgt := 214) hx hb dX10_advance_136 (by decide) (fun c226 => absurd c226 (by decide)) (fun c226 => ?_)
                  refine lv_aload_n hx hb dX10_advance_139 rfl (lv_at hl 1 rfl) ?_
                  refine lv_iconst (v := 0) hx hb dX10_advance_140 (by decide) ?_
                  refine va_put (D := G) (ci := 10) (v := .int 0) (ty := .int) (C := RX10) (T := TX10) (N := 46) hx hb hts iG_X10 tyX10 tyX10_ok nmX10 hown hK hP hD hS 0 rfl rfl 11 (by decide) (hts _ w_1203) (fun _ h9 => h9) rfl (by decide +kernel) rfl rfl (Nat.le_of_ble_eq_true rfl) dX10_advance_141 (fun H locs hP hD hS => ?_)
                  have hP : va_P G vwCl [(h0, oX10 b o_thrown o_taped o_size z3 z3 o_token 0 o_faultKind o_faultPlace o_lawNow o_walkSet o_oneWidow o_oneTurn o_askWorst o_mayWalk o_oftenAll o_oftenRoad o_oftenPegs), (b 4, .inl (cB, 900, .inl o_f4))] H := hP
                  have hD : va_D A [(h0, oX10 b o_thrown o_taped o_size z3 z3 o_token 0 o_faultKind o_faultPlace o_lawNow o_walkSet o_oneWidow o_oneTurn o_askWorst o_mayWalk o_oftenAll o_oftenRoad o_oftenPegs), (b 4, .inl (cB, 900, .inl o_f4))] := hD
                  have lp227 : ∀ (n228 : Nat) (z229 : Int32) (z230 : Int32), 0 ≤ z230.toInt → z230.toInt ≤ 900 → z3.toInt ≤ z230.toInt → z3.toInt < z230.toInt ∨ (48 ≤ seeI o_size.toInt o_f4 z230.toInt ∧ seeI o_size.toInt o_f4 z230.toInt ≤ 57) → 900 - z230.toInt < (n228 : Int) → ∀ (H : Heap) (locs : List Loc), va_P G vwCl [(h0, oX10 b o_thrown o_taped o_size z230 z3 o_token z229 o_faultKind o_faultPlace o_lawNow o_walkSet o_oneWidow o_oneTurn o_askWorst o_mayWalk o_oftenAll o_oftenRoad o_oftenPegs), (b 4, .inl (cB, 900, .inl o_f4))] H → va_D A [(h0, oX10 b o_thrown o_taped o_size z230 z3 o_token z229 o_faultKind o_faultPlace o_lawNow o_walkSet o_oneWidow o_oneTurn o_askWorst o_mayWalk o_oftenAll o_oftenRoad o_oftenPegs), (b 4, .inl (cB, 900, .inl o_f4))] → va_S A s.heap H locs → ∀ (ls : Array Slot), lv_has ls 2 [(1, .int r159), (0, .ref h0)] → W p l e ({ frames := 1, cells := 0, slots := 0, locals := 25 } : Room) s m ([.ref h0] : List Value).toArray below meth c H locs 0 0 Q (F0 m 144 ls []) := by
                    intro n228
                    induction n228 with
                    | zero =>
                      intro z229 z230 k231 k232 ax232 ay232 mm234
                      exact absurd mm234 (by have q9 := fb_rng z230; omega)
                    | succ n228 ih233 =>
                      intro z229 z230 k231 k232 ax232 ay232 mm234 H locs hP hD hS ls hl
                      refine lv_aload_n hx hb dX10_advance_144 rfl (lv_at hl 1 rfl) ?_
                      refine lv_aload_n hx hb dX10_advance_145 rfl (lv_at hl 1 rfl) ?_
                      refine va_get (D := G) (ci := 10) (v := .int z230) (C := RX10) (T := TX10) (N := 46) hx hb hts iG_X10 hown hK hP 0 rfl rfl 8 (by decide) (hts _ w_1200) (fun _ h9 => h9) rfl dX10_advance_146 ?_
                      refine k_i (wc := [(h0, oX10 b o_thrown o_taped o_size z230 z3 o_token z229 o_faultKind o_faultPlace o_lawNow o_walkSet o_oneWidow o_oneTurn o_askWorst o_mayWalk o_oftenAll o_oftenRoad o_oftenPegs), (b 4, .inl (cB, 900, .inl o_f4))]) (wr := []) hP hD hS hA [0, 1] [] rfl rfl rfl (by decide) (va_runV (As := [.int z230]) (rest := []) ⟨hx, hb, hml, hown, hts⟩ (f_X10_see l G cI cJ cZ cB cQ _ h0 z230 z230.toInt b o_thrown o_taped o_size z230 z3 o_token z229 o_faultKind o_faultPlace o_lawNow o_walkSet o_oneWidow o_oneTurn o_askWorst o_mayWalk o_oftenAll o_oftenRoad o_oftenPegs o_f4 rfl (by omega) hl_o_taped hh_o_taped hl_o_size hh_o_size k231 k232 k4 (by omega) hl_o_oneTurn hh_o_oneTurn) (cwV 1 hts (gV w_1363 w_1365 wp_84 w_11 w_1366) rfl rfl rfl ⟨rfl, hd_X10_see⟩ ⟨Nat.le_of_ble_eq_true rfl, Nat.le_of_ble_eq_true rfl⟩) (mV hK hZ hP hD [0, 1] rfl rfl [.int z230] 0 10 rfl rfl) rfl rfl hl.1 rfl (lv_room (Nat.le_of_ble_eq_true rfl)) dX10_advance_149 ⟨Nat.le_of_ble_eq_true rfl, Nat.le_of_ble_eq_true rfl⟩) (fun r235 u236 H locs hw237 hP hD hS => ?_)
                      try dsimp only at hw237
                      have hP : va_P G vwCl [(h0, oX10 b o_thrown o_taped o_size z230 z3 o_token z229 o_faultKind o_faultPlace o_lawNow o_walkSet o_oneWidow o_oneTurn o_askWorst o_mayWalk o_oftenAll o_oftenRoad o_oftenPegs), (b 4, .inl (cB, 900, .inl o_f4))] H := hP
                      have hD : va_D A [(h0, oX10 b o_thrown o_taped o_size z230 z3 o_token z229 o_faultKind o_faultPlace o_lawNow o_walkSet o_oneWidow o_oneTurn o_askWorst o_mayWalk o_oftenAll o_oftenRoad o_oftenPegs), (b 4, .inl (cB, 900, .inl o_f4))] := hD
                      rcases hw237 with ⟨rfl, s239, s240⟩ | ⟨s241, s242, s243, s244⟩
                      · skip
                        refine lv_i2l (v := (-1)) hx hb dX10_advance_152 (by decide) ?_
                        refine lv_ldc2 (v := 48) hx hb hown (hts _ w_1369) dX10_advance_153 ?_
                        refine lv_ldc2 (v := 57) hx hb hown (hts _ w_1370) dX10_advance_156 ?_
                        refine k_i (wc := []) (wr := [(h0, oX10 b o_thrown o_taped o_size z230 z3 o_token z229 o_faultKind o_faultPlace o_lawNow o_walkSet o_oneWidow o_oneTurn o_askWorst o_mayWalk o_oftenAll o_oftenRoad o_oftenPegs), (b 4, .inl (cB, 900, .inl o_f4))]) hP hD hS hA [] [0, 1] rfl rfl rfl (by decide) (va_runS (As := [.long (-1), .long 48, .long 57]) (rest := []) ⟨hx, hb, hml, hown, hts⟩ (f_X10_in l G cI cJ cZ cB cQ _ (-1) (-1) 48 48 57 57 kl_m1 kl_48 kl_57) (va_cwS 3 hts (gS w_1336 w_1337 w_11 w_1338) rfl rfl rfl hd_X10_in ⟨Nat.le_of_ble_eq_true rfl, Nat.le_of_ble_eq_true rfl⟩) (mS hK hZ hP hD [] rfl rfl [.long (-1), .long 48, .long 57]) rfl rfl hl.1 rfl (lv_room (Nat.le_of_ble_eq_true rfl)) dX10_advance_159 ⟨Nat.le_of_ble_eq_true rfl, Nat.le_of_ble_eq_true rfl⟩) (fun r246 u247 H locs hw248 hP hD hS => ?_)
                        try dsimp only at hw248
                        have hP : va_P G vwCl [(h0, oX10 b o_thrown o_taped o_size z230 z3 o_token z229 o_faultKind o_faultPlace o_lawNow o_walkSet o_oneWidow o_oneTurn o_askWorst o_mayWalk o_oftenAll o_oftenRoad o_oftenPegs), (b 4, .inl (cB, 900, .inl o_f4))] H := hP
                        have hD : va_D A [(h0, oX10 b o_thrown o_taped o_size z230 z3 o_token z229 o_faultKind o_faultPlace o_lawNow o_walkSet o_oneWidow o_oneTurn o_askWorst o_mayWalk o_oftenAll o_oftenRoad o_oftenPegs), (b 4, .inl (cB, 900, .inl o_f4))] := hD
                        rcases hw248 with ⟨rfl, a250, a251⟩ | ⟨rfl, a252⟩
                        · exact absurd (And.intro a250 a251) (by omega)
                        · skip
                          refine lv_if_eq (tgt := 206) hx hb dX10_advance_162 (by decide) (fun c253 => ?_) (fun c253 => absurd (by decide) c253)
                          refine lv_aload_n hx hb dX10_advance_206 rfl (lv_at hl 1 rfl) ?_
                          refine lv_iconst (v := 2) hx hb dX10_advance_207 (by decide) ?_
                          refine va_put (D := G) (ci := 10) (v := .int 2) (ty := .int) (C := RX10) (T := TX10) (N := 46) hx hb hts iG_X10 tyX10 tyX10_ok nmX10 hown hK hP hD hS 0 rfl rfl 10 (by decide) (hts _ w_1202) (fun _ h9 => h9) rfl (by decide +kernel) rfl rfl (Nat.le_of_ble_eq_true rfl) dX10_advance_208 (fun H locs hP hD hS => ?_)
                          have hP : va_P G vwCl [(h0, oX10 b o_thrown o_taped o_size z230 z3 2 z229 o_faultKind o_faultPlace o_lawNow o_walkSet o_oneWidow o_oneTurn o_askWorst o_mayWalk o_oftenAll o_oftenRoad o_oftenPegs), (b 4, .inl (cB, 900, .inl o_f4))] H := hP
                          have hD : va_D A [(h0, oX10 b o_thrown o_taped o_size z230 z3 2 z229 o_faultKind o_faultPlace o_lawNow o_walkSet o_oneWidow o_oneTurn o_askWorst o_mayWalk o_oftenAll o_oftenRoad o_oftenPegs), (b 4, .inl (cB, 900, .inl o_f4))] := hD
                          refine lv_goto (tgt := 239) hx hb dX10_advance_211 (by decide) ?_
                          exact hret _ _ _ _ (z230, z3, 2, z229) hP hD hS dX10_advance_239 (show 0 ≤ z230.toInt ∧ z230.toInt ≤ 900 ∧ 0 ≤ z3.toInt ∧ z3.toInt ≤ 900 ∧ o_at.toInt ≤ z3.toInt ∧ z3.toInt ≤ z230.toInt ∧ ((2 : Int32).toInt = 0 ∨ z3.toInt < z230.toInt) from ⟨k231, k232, k4, (by omega), (by omega), (by omega), (Or.inr (by omega))⟩)
                      · skip
                        obtain ⟨v254, ev254⟩ : ∃ y : Int64, r235.toInt64 = y := ⟨_, rfl⟩
                        have tv254 : v254.toInt = r235.toInt := ti_wide rfl ev254
                        refine lv_i2l (v := v254) hx hb dX10_advance_152 ev254 ?_
                        refine lv_ldc2 (v := 48) hx hb hown (hts _ w_1369) dX10_advance_153 ?_
                        refine lv_ldc2 (v := 57) hx hb hown (hts _ w_1370) dX10_advance_156 ?_
                        refine k_i (wc := []) (wr := [(h0, oX10 b o_thrown o_taped o_size z230 z3 o_token z229 o_faultKind o_faultPlace o_lawNow o_walkSet o_oneWidow o_oneTurn o_askWorst o_mayWalk o_oftenAll o_oftenRoad o_oftenPegs), (b 4, .inl (cB, 900, .inl o_f4))]) hP hD hS hA [] [0, 1] rfl rfl rfl (by decide) (va_runS (As := [.long v254, .long 48, .long 57]) (rest := []) ⟨hx, hb, hml, hown, hts⟩ (f_X10_in l G cI cJ cZ cB cQ _ v254 r235.toInt 48 48 57 57 tv254 kl_48 kl_57) (va_cwS 3 hts (gS w_1336 w_1337 w_11 w_1338) rfl rfl rfl hd_X10_in ⟨Nat.le_of_ble_eq_true rfl, Nat.le_of_ble_eq_true rfl⟩) (mS hK hZ hP hD [] rfl rfl [.long v254, .long 48, .long 57]) rfl rfl hl.1 rfl (lv_room (Nat.le_of_ble_eq_true rfl)) dX10_advance_159 ⟨Nat.le_of_ble_eq_true rfl, Nat.le_of_ble_eq_true rfl⟩) (fun r255 u256 H locs hw257 hP hD hS => ?_)
                        try dsimp only at hw257
                        have hP : va_P G vwCl [(h0, oX10 b o_thrown o_taped o_size z230 z3 o_token z229 o_faultKind o_faultPlace o_lawNow o_walkSet o_oneWidow o_oneTurn o_askWorst o_mayWalk o_oftenAll o_oftenRoad o_oftenPegs), (b 4, .inl (cB, 900, .inl o_f4))] H := hP
                        have hD : va_D A [(h0, oX10 b o_thrown o_taped o_size z230 z3 o_token z229 o_faultKind o_faultPlace o_lawNow o_walkSet o_oneWidow o_oneTurn o_askWorst o_mayWalk o_oftenAll o_oftenRoad o_oftenPegs), (b 4, .inl (cB, 900, .inl o_f4))] := hD
                        rcases hw257 with ⟨rfl, a259, a260⟩ | ⟨rfl, a261⟩
                        · skip
                          refine lv_if_eq (tgt := 206) hx hb dX10_advance_162 (by decide) (fun c262 => absurd c262 (by decide)) (fun c262 => ?_)
                          refine lv_aload_n hx hb dX10_advance_165 rfl (lv_at hl 1 rfl) ?_
                          refine lv_ldc (v := 99999) hx hb hown (hts _ w_1371) dX10_advance_166 ?_
                          refine lv_bipush (v := 10) hx hb dX10_advance_168 (by decide) ?_
                          refine lv_aload_n hx hb dX10_advance_170 rfl (lv_at hl 1 rfl) ?_
                          refine va_get (D := G) (ci := 10) (v := .int z229) (C := RX10) (T := TX10) (N := 46) hx hb hts iG_X10 hown hK hP 0 rfl rfl 11 (by decide) (hts _ w_1203) (fun _ h9 => h9) rfl dX10_advance_171 ?_
                          refine lv_imul hx hb dX10_advance_174 ?_
                          refine lv_topi (fun v263 ev263 => ?_)
                          refine lv_aload_n hx hb dX10_advance_175 rfl (lv_at hl 1 rfl) ?_
                          refine lv_aload_n hx hb dX10_advance_176 rfl (lv_at hl 1 rfl) ?_
                          refine va_get (D := G) (ci := 10) (v := .int z230) (C := RX10) (T := TX10) (N := 46) hx hb hts iG_X10 hown hK hP 0 rfl rfl 8 (by decide) (hts _ w_1200) (fun _ h9 => h9) rfl dX10_advance_177 ?_
                          refine k_i (wc := [(h0, oX10 b o_thrown o_taped o_size z230 z3 o_token z229 o_faultKind o_faultPlace o_lawNow o_walkSet o_oneWidow o_oneTurn o_askWorst o_mayWalk o_oftenAll o_oftenRoad o_oftenPegs), (b 4, .inl (cB, 900, .inl o_f4))]) (wr := []) hP hD hS hA [0, 1] [] rfl rfl rfl (by decide) (va_runV (As := [.int z230]) (rest := [.int v263, .int 99999, .ref h0]) ⟨hx, hb, hml, hown, hts⟩ (f_X10_see l G cI cJ cZ cB cQ _ h0 z230 z230.toInt b o_thrown o_taped o_size z230 z3 o_token z229 o_faultKind o_faultPlace o_lawNow o_walkSet o_oneWidow o_oneTurn o_askWorst o_mayWalk o_oftenAll o_oftenRoad o_oftenPegs o_f4 rfl (by omega) hl_o_taped hh_o_taped hl_o_size hh_o_size k231 (by omega) k4 (by omega) hl_o_oneTurn hh_o_oneTurn) (cwV 1 hts (gV w_1363 w_1365 wp_84 w_11 w_1366) rfl rfl rfl ⟨rfl, hd_X10_see⟩ ⟨Nat.le_of_ble_eq_true rfl, Nat.le_of_ble_eq_true rfl⟩) (mV hK hZ hP hD [0, 1] rfl rfl [.int z230] 0 10 rfl rfl) rfl rfl hl.1 rfl (lv_room (Nat.le_of_ble_eq_true rfl)) dX10_advance_180 ⟨Nat.le_of_ble_eq_true rfl, Nat.le_of_ble_eq_true rfl⟩) (fun r264 u265 H locs hw266 hP hD hS => ?_)
                          try dsimp only at hw266
                          have hP : va_P G vwCl [(h0, oX10 b o_thrown o_taped o_size z230 z3 o_token z229 o_faultKind o_faultPlace o_lawNow o_walkSet o_oneWidow o_oneTurn o_askWorst o_mayWalk o_oftenAll o_oftenRoad o_oftenPegs), (b 4, .inl (cB, 900, .inl o_f4))] H := hP
                          have hD : va_D A [(h0, oX10 b o_thrown o_taped o_size z230 z3 o_token z229 o_faultKind o_faultPlace o_lawNow o_walkSet o_oneWidow o_oneTurn o_askWorst o_mayWalk o_oftenAll o_oftenRoad o_oftenPegs), (b 4, .inl (cB, 900, .inl o_f4))] := hD
                          rcases hw266 with ⟨rfl, s268, s269⟩ | ⟨s270, s271, s272, s273⟩
                          · skip
                            refine lv_iadd hx hb dX10_advance_183 ?_
                            refine lv_topi (fun v274 ev274 => ?_)
                            refine lv_bipush (v := 48) hx hb dX10_advance_184 (by decide) ?_
                            refine lv_isub hx hb dX10_advance_186 ?_
                            refine lv_topi (fun v275 ev275 => ?_)
                            refine va_mmin hx hb (by rw [hml]; exact hl.1.symm) hown (hts _ w_1372) (hts _ w_502) (hts _ w_16) (hts _ w_503) (Nat.le_of_ble_eq_true rfl) (Nat.le_of_ble_eq_true rfl) (Nat.le_of_ble_eq_true rfl) (Nat.le_of_ble_eq_true rfl) dX10_advance_187 ?_
                            refine lv_topi (fun v276 ev276 => ?_)
                            refine va_put (D := G) (ci := 10) (v := .int v276) (ty := .int) (C := RX10) (T := TX10) (N := 46) hx hb hts iG_X10 tyX10 tyX10_ok nmX10 hown hK hP hD hS 0 rfl rfl 11 (by decide) (hts _ w_1203) (fun _ h9 => h9) rfl (by decide +kernel) rfl rfl (Nat.le_of_ble_eq_true rfl) dX10_advance_190 (fun H locs hP hD hS => ?_)
                            have hP : va_P G vwCl [(h0, oX10 b o_thrown o_taped o_size z230 z3 o_token v276 o_faultKind o_faultPlace o_lawNow o_walkSet o_oneWidow o_oneTurn o_askWorst o_mayWalk o_oftenAll o_oftenRoad o_oftenPegs), (b 4, .inl (cB, 900, .inl o_f4))] H := hP
                            have hD : va_D A [(h0, oX10 b o_thrown o_taped o_size z230 z3 o_token v276 o_faultKind o_faultPlace o_lawNow o_walkSet o_oneWidow o_oneTurn o_askWorst o_mayWalk o_oftenAll o_oftenRoad o_oftenPegs), (b 4, .inl (cB, 900, .inl o_f4))] := hD
                            refine lv_aload_n hx hb dX10_advance_193 rfl (lv_at hl 1 rfl) ?_
                            refine lv_dup hx hb dX10_advance_194 rfl ?_
                            refine va_get (D := G) (ci := 10) (v := .int z230) (C := RX10) (T := TX10) (N := 46) hx hb hts iG_X10 hown hK hP 0 rfl rfl 8 (by decide) (hts _ w_1200) (fun _ h9 => h9) rfl dX10_advance_195 ?_
                            refine lv_iconst (v := 1) hx hb dX10_advance_198 (by decide) ?_
                            refine lv_iadd hx hb dX10_advance_199 ?_
                            refine lv_topi (fun v277 ev277 => ?_)
                            have tv277 : v277.toInt = z230.toInt + 1 := ti_add rfl ki_1 ev277 (by omega) (by omega)
                            refine va_put (D := G) (ci := 10) (v := .int v277) (ty := .int) (C := RX10) (T := TX10) (N := 46) hx hb hts iG_X10 tyX10 tyX10_ok nmX10 hown hK hP hD hS 0 rfl rfl 8 (by decide) (hts _ w_1200) (fun _ h9 => h9) rfl (by decide +kernel) rfl rfl (Nat.le_of_ble_eq_true rfl) dX10_advance_200 (fun H locs hP hD hS => ?_)
                            have hP : va_P G vwCl [(h0, oX10 b o_thrown o_taped o_size v277 z3 o_token v276 o_faultKind o_faultPlace o_lawNow o_walkSet o_oneWidow o_oneTurn o_askWorst o_mayWalk o_oftenAll o_oftenRoad o_oftenPegs), (b 4, .inl (cB, 900, .inl o_f4))] H := hP
                            have hD : va_D A [(h0, oX10 b o_thrown o_taped o_size v277 z3 o_token v276 o_faultKind o_faultPlace o_lawNow o_walkSet o_oneWidow o_oneTurn o_askWorst o_mayWalk o_oftenAll o_oftenRoad o_oftenPegs), (b 4, .inl (cB, 900, .inl o_f4))] := hD
                            refine lv_goto (tgt := 144) hx hb dX10_advance_203 (by decide) ?_
                            exact ih233 v276 v277 (by omega) (by omega) (by omega) (by omega) (by omega) _ _ hP hD hS ls (lv_sub hl [0, 1] rfl)
                          · skip
                            refine lv_iadd hx hb dX10_advance_183 ?_
                            refine lv_topi (fun v278 ev278 => ?_)
                            refine lv_bipush (v := 48) hx hb dX10_advance_184 (by decide) ?_
                            refine lv_isub hx hb dX10_advance_186 ?_
                            refine lv_topi (fun v279 ev279 => ?_)
                            refine va_mmin hx hb (by rw [hml]; exact hl.1.symm) hown (hts _ w_1372) (hts _ w_502) (hts _ w_16) (hts _ w_503) (Nat.le_of_ble_eq_true rfl) (Nat.le_of_ble_eq_true rfl) (Nat.le_of_ble_eq_true rfl) (Nat.le_of_ble_eq_true rfl) dX10_advance_187 ?_
                            refine lv_topi (fun v280 ev280 => ?_)
                            refine va_put (D := G) (ci := 10) (v := .int v280) (ty := .int) (C := RX10) (T := TX10) (N := 46) hx hb hts iG_X10 tyX10 tyX10_ok nmX10 hown hK hP hD hS 0 rfl rfl 11 (by decide) (hts _ w_1203) (fun _ h9 => h9) rfl (by decide +kernel) rfl rfl (Nat.le_of_ble_eq_true rfl) dX10_advance_190 (fun H locs hP hD hS => ?_)
                            have hP : va_P G vwCl [(h0, oX10 b o_thrown o_taped o_size z230 z3 o_token v280 o_faultKind o_faultPlace o_lawNow o_walkSet o_oneWidow o_oneTurn o_askWorst o_mayWalk o_oftenAll o_oftenRoad o_oftenPegs), (b 4, .inl (cB, 900, .inl o_f4))] H := hP
                            have hD : va_D A [(h0, oX10 b o_thrown o_taped o_size z230 z3 o_token v280 o_faultKind o_faultPlace o_lawNow o_walkSet o_oneWidow o_oneTurn o_askWorst o_mayWalk o_oftenAll o_oftenRoad o_oftenPegs), (b 4, .inl (cB, 900, .inl o_f4))] := hD
                            refine lv_aload_n hx hb dX10_advance_193 rfl (lv_at hl 1 rfl) ?_
                            refine lv_dup hx hb dX10_advance_194 rfl ?_
                            refine va_get (D := G) (ci := 10) (v := .int z230) (C := RX10) (T := TX10) (N := 46) hx hb hts iG_X10 hown hK hP 0 rfl rfl 8 (by decide) (hts _ w_1200) (fun _ h9 => h9) rfl dX10_advance_195 ?_
                            refine lv_iconst (v := 1) hx hb dX10_advance_198 (by decide) ?_
                            refine lv_iadd hx hb dX10_advance_199 ?_
                            refine lv_topi (fun v281 ev281 => ?_)
                            have tv281 : v281.toInt = z230.toInt + 1 := ti_add rfl ki_1 ev281 (by omega) (by omega)
                            refine va_put (D := G) (ci := 10) (v := .int v281) (ty := .int) (C := RX10) (T := TX10) (N := 46) hx hb hts iG_X10 tyX10 tyX10_ok nmX10 hown hK hP hD hS 0 rfl rfl 8 (by decide) (hts _ w_1200) (fun _ h9 => h9) rfl (by decide +kernel) rfl rfl (Nat.le_of_ble_eq_true rfl) dX10_advance_200 (fun H locs hP hD hS => ?_)
                            have hP : va_P G vwCl [(h0, oX10 b o_thrown o_taped o_size v281 z3 o_token v280 o_faultKind o_faultPlace o_lawNow o_walkSet o_oneWidow o_oneTurn o_askWorst o_mayWalk o_oftenAll o_oftenRoad o_oftenPegs), (b 4, .inl (cB, 900, .inl o_f4))] H := hP
                            have hD : va_D A [(h0, oX10 b o_thrown o_taped o_size v281 z3 o_token v280 o_faultKind o_faultPlace o_lawNow o_walkSet o_oneWidow o_oneTurn o_askWorst o_mayWalk o_oftenAll o_oftenRoad o_oftenPegs), (b 4, .inl (cB, 900, .inl o_f4))] := hD
                            refine lv_goto (tgt := 144) hx hb dX10_advance_203 (by decide) ?_
                            exact ih233 v280 v281 (by omega) (by omega) (by omega) (by omega) (by omega) _ _ hP hD hS ls (lv_sub hl [0, 1] rfl)
                        · skip
                          refine lv_if_eq (tgt := 206) hx hb dX10_advance_162 (by decide) (fun c282 => ?_) (fun c282 => absurd (by decide) c282)
                          refine lv_aload_n hx hb dX10_advance_206 rfl (lv_at hl 1 rfl) ?_
                          refine lv_iconst (v := 2) hx hb dX10_advance_207 (by decide) ?_
                          refine va_put (D := G) (ci := 10) (v := .int 2) (ty := .int) (C := RX10) (T := TX10) (N := 46) hx hb hts iG_X10 tyX10 tyX10_ok nmX10 hown hK hP hD hS 0 rfl rfl 10 (by decide) (hts _ w_1202) (fun _ h9 => h9) rfl (by decide +kernel) rfl rfl (Nat.le_of_ble_eq_true rfl) dX10_advance_208 (fun H locs hP hD hS => ?_)
                          have hP : va_P G vwCl [(h0, oX10 b o_thrown o_taped o_size z230 z3 2 z229 o_faultKind o_faultPlace o_lawNow o_walkSet o_oneWidow o_oneTurn o_askWorst o_mayWalk o_oftenAll o_oftenRoad o_oftenPegs), (b 4, .inl (cB, 900, .inl o_f4))] H := hP
                          have hD : va_D A [(h0, oX10 b o_thrown o_taped o_size z230 z3 2 z229 o_faultKind o_faultPlace o_lawNow o_walkSet o_oneWidow o_oneTurn o_askWorst o_mayWalk o_oftenAll o_oftenRoad o_oftenPegs), (b 4, .inl (cB, 900, .inl o_f4))] := hD
                          refine lv_goto (tgt := 239) hx hb dX10_advance_211 (by decide) ?_
                          exact hret _ _ _ _ (z230, z3, 2, z229) hP hD hS dX10_advance_239 (show 0 ≤ z230.toInt ∧ z230.toInt ≤ 900 ∧ 0 ≤ z3.toInt ∧ z3.toInt ≤ 900 ∧ o_at.toInt ≤ z3.toInt ∧ z3.toInt ≤ z230.toInt ∧ ((2 : Int32).toInt = 0 ∨ z3.toInt < z230.toInt) from ⟨k231, (by omega), k4, (by omega), (by omega), (by omega), (Or.inr (by omega))⟩)
                  exact lp227 901 0 z3 k4 (by omega) (by omega) (by omega) (by have q9 := fb_rng z3; omega) _ _ hP hD hS ls (lv_sub hl [0, 1] rfl)
                · skip
                  refine lv_if_eq (tgt := 214) hx hb dX10_advance_136 (by decide) (fun c283 => ?_) (fun c283 => absurd (by decide) c283)
                  refine lv_aload_n hx hb dX10_advance_214 rfl (lv_at hl 1 rfl) ?_
                  refine lv_iload_n hx hb dX10_advance_215 rfl (lv_at hl 0 rfl) ?_
                  refine lv_bipush (v := 59) hx hb dX10_advance_216 (by decide) ?_
                  refine lv_icmp_ne (tgt := 225) hx hb dX10_advance_218 (by decide) (fun c284 => ?_) (fun c284 => ?_)
                  · have c284 := i_ne rfl ki_59 c284
                    refine lv_iconst (v := 4) hx hb dX10_advance_225 (by decide) ?_
                    refine va_put (D := G) (ci := 10) (v := .int 4) (ty := .int) (C := RX10) (T := TX10) (N := 46) hx hb hts iG_X10 tyX10 tyX10_ok nmX10 hown hK hP hD hS 0 rfl rfl 10 (by decide) (hts _ w_1202) (fun _ h9 => h9) rfl (by decide +kernel) rfl rfl (Nat.le_of_ble_eq_true rfl) dX10_advance_226 (fun H locs hP hD hS => ?_)
                    have hP : va_P G vwCl [(h0, oX10 b o_thrown o_taped o_size z3 z3 4 o_value o_faultKind o_faultPlace o_lawNow o_walkSet o_oneWidow o_oneTurn o_askWorst o_mayWalk o_oftenAll o_oftenRoad o_oftenPegs), (b 4, .inl (cB, 900, .inl o_f4))] H := hP
                    have hD : va_D A [(h0, oX10 b o_thrown o_taped o_size z3 z3 4 o_value o_faultKind o_faultPlace o_lawNow o_walkSet o_oneWidow o_oneTurn o_askWorst o_mayWalk o_oftenAll o_oftenRoad o_oftenPegs), (b 4, .inl (cB, 900, .inl o_f4))] := hD
                    refine lv_aload_n hx hb dX10_advance_229 rfl (lv_at hl 1 rfl) ?_
                    refine lv_dup hx hb dX10_advance_230 rfl ?_
                    refine va_get (D := G) (ci := 10) (v := .int z3) (C := RX10) (T := TX10) (N := 46) hx hb hts iG_X10 hown hK hP 0 rfl rfl 8 (by decide) (hts _ w_1200) (fun _ h9 => h9) rfl dX10_advance_231 ?_
                    refine lv_iconst (v := 1) hx hb dX10_advance_234 (by decide) ?_
                    refine lv_iadd hx hb dX10_advance_235 ?_
                    refine lv_topi (fun v285 ev285 => ?_)
                    have tv285 : v285.toInt = z3.toInt + 1 := ti_add rfl ki_1 ev285 (by omega) (by omega)
                    refine va_put (D := G) (ci := 10) (v := .int v285) (ty := .int) (C := RX10) (T := TX10) (N := 46) hx hb hts iG_X10 tyX10 tyX10_ok nmX10 hown hK hP hD hS 0 rfl rfl 8 (by decide) (hts _ w_1200) (fun _ h9 => h9) rfl (by decide +kernel) rfl rfl (Nat.le_of_ble_eq_true rfl) dX10_advance_236 (fun H locs hP hD hS => ?_)
                    have hP : va_P G vwCl [(h0, oX10 b o_thrown o_taped o_size v285 z3 4 o_value o_faultKind o_faultPlace o_lawNow o_walkSet o_oneWidow o_oneTurn o_askWorst o_mayWalk o_oftenAll o_oftenRoad o_oftenPegs), (b 4, .inl (cB, 900, .inl o_f4))] H := hP
                    have hD : va_D A [(h0, oX10 b o_thrown o_taped o_size v285 z3 4 o_value o_faultKind o_faultPlace o_lawNow o_walkSet o_oneWidow o_oneTurn o_askWorst o_mayWalk o_oftenAll o_oftenRoad o_oftenPegs), (b 4, .inl (cB, 900, .inl o_f4))] := hD
                    exact hret _ _ _ _ (v285, z3, 4, o_value) hP hD hS dX10_advance_239 (show 0 ≤ v285.toInt ∧ v285.toInt ≤ 900 ∧ 0 ≤ z3.toInt ∧ z3.toInt ≤ 900 ∧ o_at.toInt ≤ z3.toInt ∧ z3.toInt ≤ v285.toInt ∧ ((4 : Int32).toInt = 0 ∨ z3.toInt < v285.toInt) from ⟨(by omega), (by omega), k4, (by omega), (by omega), (by omega), (Or.inr (by omega))⟩)
                  · have c284 := i_eq rfl ki_59 c284
                    refine lv_iconst (v := 3) hx hb dX10_advance_221 (by decide) ?_
                    refine lv_goto (tgt := 226) hx hb dX10_advance_222 (by decide) ?_
                    refine va_put (D := G) (ci := 10) (v := .int 3) (ty := .int) (C := RX10) (T := TX10) (N := 46) hx hb hts iG_X10 tyX10 tyX10_ok nmX10 hown hK hP hD hS 0 rfl rfl 10 (by decide) (hts _ w_1202) (fun _ h9 => h9) rfl (by decide +kernel) rfl rfl (Nat.le_of_ble_eq_true rfl) dX10_advance_226 (fun H locs hP hD hS => ?_)
                    have hP : va_P G vwCl [(h0, oX10 b o_thrown o_taped o_size z3 z3 3 o_value o_faultKind o_faultPlace o_lawNow o_walkSet o_oneWidow o_oneTurn o_askWorst o_mayWalk o_oftenAll o_oftenRoad o_oftenPegs), (b 4, .inl (cB, 900, .inl o_f4))] H := hP
                    have hD : va_D A [(h0, oX10 b o_thrown o_taped o_size z3 z3 3 o_value o_faultKind o_faultPlace o_lawNow o_walkSet o_oneWidow o_oneTurn o_askWorst o_mayWalk o_oftenAll o_oftenRoad o_oftenPegs), (b 4, .inl (cB, 900, .inl o_f4))] := hD
                    refine lv_aload_n hx hb dX10_advance_229 rfl (lv_at hl 1 rfl) ?_
                    refine lv_dup hx hb dX10_advance_230 rfl ?_
                    refine va_get (D := G) (ci := 10) (v := .int z3) (C := RX10) (T := TX10) (N := 46) hx hb hts iG_X10 hown hK hP 0 rfl rfl 8 (by decide) (hts _ w_1200) (fun _ h9 => h9) rfl dX10_advance_231 ?_
                    refine lv_iconst (v := 1) hx hb dX10_advance_234 (by decide) ?_
                    refine lv_iadd hx hb dX10_advance_235 ?_
                    refine lv_topi (fun v286 ev286 => ?_)
                    have tv286 : v286.toInt = z3.toInt + 1 := ti_add rfl ki_1 ev286 (by omega) (by omega)
                    refine va_put (D := G) (ci := 10) (v := .int v286) (ty := .int) (C := RX10) (T := TX10) (N := 46) hx hb hts iG_X10 tyX10 tyX10_ok nmX10 hown hK hP hD hS 0 rfl rfl 8 (by decide) (hts _ w_1200) (fun _ h9 => h9) rfl (by decide +kernel) rfl rfl (Nat.le_of_ble_eq_true rfl) dX10_advance_236 (fun H locs hP hD hS => ?_)
                    have hP : va_P G vwCl [(h0, oX10 b o_thrown o_taped o_size v286 z3 3 o_value o_faultKind o_faultPlace o_lawNow o_walkSet o_oneWidow o_oneTurn o_askWorst o_mayWalk o_oftenAll o_oftenRoad o_oftenPegs), (b 4, .inl (cB, 900, .inl o_f4))] H := hP
                    have hD : va_D A [(h0, oX10 b o_thrown o_taped o_size v286 z3 3 o_value o_faultKind o_faultPlace o_lawNow o_walkSet o_oneWidow o_oneTurn o_askWorst o_mayWalk o_oftenAll o_oftenRoad o_oftenPegs), (b 4, .inl (cB, 900, .inl o_f4))] := hD
                    exact hret _ _ _ _ (v286, z3, 3, o_value) hP hD hS dX10_advance_239 (show 0 ≤ v286.toInt ∧ v286.toInt ≤ 900 ∧ 0 ≤ z3.toInt ∧ z3.toInt ≤ 900 ∧ o_at.toInt ≤ z3.toInt ∧ z3.toInt ≤ v286.toInt ∧ ((3 : Int32).toInt = 0 ∨ z3.toInt < v286.toInt) from ⟨(by omega), (by omega), k4, (by omega), (by omega), (by omega), (Or.inr (by omega))⟩)
          · have c158 := i_eq rfl ki_10 c158
            refine lv_aload_n hx hb dX10_advance_26 rfl (lv_at hl 0 rfl) ?_
            refine lv_dup hx hb dX10_advance_27 rfl ?_
            refine va_get (D := G) (ci := 10) (v := .int z3) (C := RX10) (T := TX10) (N := 46) hx hb hts iG_X10 hown hK hP 0 rfl rfl 8 (by decide) (hts _ w_1200) (fun _ h9 => h9) rfl dX10_advance_28 ?_
            refine lv_iconst (v := 1) hx hb dX10_advance_31 (by decide) ?_
            refine lv_iadd hx hb dX10_advance_32 ?_
            refine lv_topi (fun v287 ev287 => ?_)
            have tv287 : v287.toInt = z3.toInt + 1 := ti_add rfl ki_1 ev287 (by omega) (by omega)
            refine va_put (D := G) (ci := 10) (v := .int v287) (ty := .int) (C := RX10) (T := TX10) (N := 46) hx hb hts iG_X10 tyX10 tyX10_ok nmX10 hown hK hP hD hS 0 rfl rfl 8 (by decide) (hts _ w_1200) (fun _ h9 => h9) rfl (by decide +kernel) rfl rfl (Nat.le_of_ble_eq_true rfl) dX10_advance_33 (fun H locs hP hD hS => ?_)
            have hP : va_P G vwCl [(h0, oX10 b o_thrown o_taped o_size v287 o_from o_token o_value o_faultKind o_faultPlace o_lawNow o_walkSet o_oneWidow o_oneTurn o_askWorst o_mayWalk o_oftenAll o_oftenRoad o_oftenPegs), (b 4, .inl (cB, 900, .inl o_f4))] H := hP
            have hD : va_D A [(h0, oX10 b o_thrown o_taped o_size v287 o_from o_token o_value o_faultKind o_faultPlace o_lawNow o_walkSet o_oneWidow o_oneTurn o_askWorst o_mayWalk o_oftenAll o_oftenRoad o_oftenPegs), (b 4, .inl (cB, 900, .inl o_f4))] := hD
            refine lv_goto (tgt := 0) hx hb dX10_advance_36 (by decide) ?_
            exact ih6 v287 (by omega) (by omega) (by omega) (by omega) _ _ hP hD hS ls (lv_sub hl [0] rfl)
      · skip
        refine lv_bipush (v := 32) hx hb dX10_advance_8 (by decide) ?_
        refine lv_icmp_eq (tgt := 26) hx hb dX10_advance_10 (by decide) (fun c288 => ?_) (fun c288 => ?_)
        · have c288 := i_eq rfl ki_32 c288
          refine lv_aload_n hx hb dX10_advance_26 rfl (lv_at hl 0 rfl) ?_
          refine lv_dup hx hb dX10_advance_27 rfl ?_
          refine va_get (D := G) (ci := 10) (v := .int z3) (C := RX10) (T := TX10) (N := 46) hx hb hts iG_X10 hown hK hP 0 rfl rfl 8 (by decide) (hts _ w_1200) (fun _ h9 => h9) rfl dX10_advance_28 ?_
          refine lv_iconst (v := 1) hx hb dX10_advance_31 (by decide) ?_
          refine lv_iadd hx hb dX10_advance_32 ?_
          refine lv_topi (fun v289 ev289 => ?_)
          have tv289 : v289.toInt = z3.toInt + 1 := ti_add rfl ki_1 ev289 (by omega) (by omega)
          refine va_put (D := G) (ci := 10) (v := .int v289) (ty := .int) (C := RX10) (T := TX10) (N := 46) hx hb hts iG_X10 tyX10 tyX10_ok nmX10 hown hK hP hD hS 0 rfl rfl 8 (by decide) (hts _ w_1200) (fun _ h9 => h9) rfl (by decide +kernel) rfl rfl (Nat.le_of_ble_eq_true rfl) dX10_advance_33 (fun H locs hP hD hS => ?_)
          have hP : va_P G vwCl [(h0, oX10 b o_thrown o_taped o_size v289 o_from o_token o_value o_faultKind o_faultPlace o_lawNow o_walkSet o_oneWidow o_oneTurn o_askWorst o_mayWalk o_oftenAll o_oftenRoad o_oftenPegs), (b 4, .inl (cB, 900, .inl o_f4))] H := hP
          have hD : va_D A [(h0, oX10 b o_thrown o_taped o_size v289 o_from o_token o_value o_faultKind o_faultPlace o_lawNow o_walkSet o_oneWidow o_oneTurn o_askWorst o_mayWalk o_oftenAll o_oftenRoad o_oftenPegs), (b 4, .inl (cB, 900, .inl o_f4))] := hD
          refine lv_goto (tgt := 0) hx hb dX10_advance_36 (by decide) ?_
          exact ih6 v289 (by omega) (by omega) (by omega) (by omega) _ _ hP hD hS ls (lv_sub hl [0] rfl)
        · have c288 := i_ne rfl ki_32 c288
          refine lv_aload_n hx hb dX10_advance_13 rfl (lv_at hl 0 rfl) ?_
          refine lv_aload_n hx hb dX10_advance_14 rfl (lv_at hl 0 rfl) ?_
          refine va_get (D := G) (ci := 10) (v := .int z3) (C := RX10) (T := TX10) (N := 46) hx hb hts iG_X10 hown hK hP 0 rfl rfl 8 (by decide) (hts _ w_1200) (fun _ h9 => h9) rfl dX10_advance_15 ?_
          refine k_i (wc := [(h0, oX10 b o_thrown o_taped o_size z3 o_from o_token o_value o_faultKind o_faultPlace o_lawNow o_walkSet o_oneWidow o_oneTurn o_askWorst o_mayWalk o_oftenAll o_oftenRoad o_oftenPegs), (b 4, .inl (cB, 900, .inl o_f4))]) (wr := []) hP hD hS hA [0, 1] [] rfl rfl rfl (by decide) (va_runV (As := [.int z3]) (rest := []) ⟨hx, hb, hml, hown, hts⟩ (f_X10_see l G cI cJ cZ cB cQ _ h0 z3 z3.toInt b o_thrown o_taped o_size z3 o_from o_token o_value o_faultKind o_faultPlace o_lawNow o_walkSet o_oneWidow o_oneTurn o_askWorst o_mayWalk o_oftenAll o_oftenRoad o_oftenPegs o_f4 rfl (by omega) hl_o_taped hh_o_taped hl_o_size hh_o_size k4 (by omega) hl_o_from hh_o_from hl_o_oneTurn hh_o_oneTurn) (cwV 1 hts (gV w_1363 w_1365 wp_84 w_11 w_1366) rfl rfl rfl ⟨rfl, hd_X10_see⟩ ⟨Nat.le_of_ble_eq_true rfl, Nat.le_of_ble_eq_true rfl⟩) (mV hK hZ hP hD [0, 1] rfl rfl [.int z3] 0 10 rfl rfl) rfl rfl hl.1 rfl (lv_room (Nat.le_of_ble_eq_true rfl)) dX10_advance_18 ⟨Nat.le_of_ble_eq_true rfl, Nat.le_of_ble_eq_true rfl⟩) (fun r290 u291 H locs hw292 hP hD hS => ?_)
          try dsimp only at hw292
          have hP : va_P G vwCl [(h0, oX10 b o_thrown o_taped o_size z3 o_from o_token o_value o_faultKind o_faultPlace o_lawNow o_walkSet o_oneWidow o_oneTurn o_askWorst o_mayWalk o_oftenAll o_oftenRoad o_oftenPegs), (b 4, .inl (cB, 900, .inl o_f4))] H := hP
          have hD : va_D A [(h0, oX10 b o_thrown o_taped o_size z3 o_from o_token o_value o_faultKind o_faultPlace o_lawNow o_walkSet o_oneWidow o_oneTurn o_askWorst o_mayWalk o_oftenAll o_oftenRoad o_oftenPegs), (b 4, .inl (cB, 900, .inl o_f4))] := hD
          rcases hw292 with ⟨rfl, s294, s295⟩ | ⟨s296, s297, s298, s299⟩
          · skip
            refine lv_bipush (v := 10) hx hb dX10_advance_21 (by decide) ?_
            refine lv_icmp_ne (tgt := 39) hx hb dX10_advance_23 (by decide) (fun c300 => ?_) (fun c300 => absurd c300 (by decide))
            refine lv_aload_n hx hb dX10_advance_39 rfl (lv_at hl 0 rfl) ?_
            refine lv_aload_n hx hb dX10_advance_40 rfl (lv_at hl 0 rfl) ?_
            refine va_get (D := G) (ci := 10) (v := .int z3) (C := RX10) (T := TX10) (N := 46) hx hb hts iG_X10 hown hK hP 0 rfl rfl 8 (by decide) (hts _ w_1200) (fun _ h9 => h9) rfl dX10_advance_41 ?_
            refine va_put (D := G) (ci := 10) (v := .int z3) (ty := .int) (C := RX10) (T := TX10) (N := 46) hx hb hts iG_X10 tyX10 tyX10_ok nmX10 hown hK hP hD hS 0 rfl rfl 9 (by decide) (hts _ w_1201) (fun _ h9 => h9) rfl (by decide +kernel) rfl rfl (Nat.le_of_ble_eq_true rfl) dX10_advance_44 (fun H locs hP hD hS => ?_)
            have hP : va_P G vwCl [(h0, oX10 b o_thrown o_taped o_size z3 z3 o_token o_value o_faultKind o_faultPlace o_lawNow o_walkSet o_oneWidow o_oneTurn o_askWorst o_mayWalk o_oftenAll o_oftenRoad o_oftenPegs), (b 4, .inl (cB, 900, .inl o_f4))] H := hP
            have hD : va_D A [(h0, oX10 b o_thrown o_taped o_size z3 z3 o_token o_value o_faultKind o_faultPlace o_lawNow o_walkSet o_oneWidow o_oneTurn o_askWorst o_mayWalk o_oftenAll o_oftenRoad o_oftenPegs), (b 4, .inl (cB, 900, .inl o_f4))] := hD
            refine lv_aload_n hx hb dX10_advance_47 rfl (lv_at hl 0 rfl) ?_
            refine lv_aload_n hx hb dX10_advance_48 rfl (lv_at hl 0 rfl) ?_
            refine va_get (D := G) (ci := 10) (v := .int z3) (C := RX10) (T := TX10) (N := 46) hx hb hts iG_X10 hown hK hP 0 rfl rfl 8 (by decide) (hts _ w_1200) (fun _ h9 => h9) rfl dX10_advance_49 ?_
            refine k_i (wc := [(h0, oX10 b o_thrown o_taped o_size z3 z3 o_token o_value o_faultKind o_faultPlace o_lawNow o_walkSet o_oneWidow o_oneTurn o_askWorst o_mayWalk o_oftenAll o_oftenRoad o_oftenPegs), (b 4, .inl (cB, 900, .inl o_f4))]) (wr := []) hP hD hS hA [0, 1] [] rfl rfl rfl (by decide) (va_runV (As := [.int z3]) (rest := []) ⟨hx, hb, hml, hown, hts⟩ (f_X10_see l G cI cJ cZ cB cQ _ h0 z3 z3.toInt b o_thrown o_taped o_size z3 z3 o_token o_value o_faultKind o_faultPlace o_lawNow o_walkSet o_oneWidow o_oneTurn o_askWorst o_mayWalk o_oftenAll o_oftenRoad o_oftenPegs o_f4 rfl (by omega) hl_o_taped hh_o_taped hl_o_size hh_o_size k4 (by omega) k4 (by omega) hl_o_oneTurn hh_o_oneTurn) (cwV 1 hts (gV w_1363 w_1365 wp_84 w_11 w_1366) rfl rfl rfl ⟨rfl, hd_X10_see⟩ ⟨Nat.le_of_ble_eq_true rfl, Nat.le_of_ble_eq_true rfl⟩) (mV hK hZ hP hD [0, 1] rfl rfl [.int z3] 0 10 rfl rfl) rfl rfl hl.1 rfl (lv_room (Nat.le_of_ble_eq_true rfl)) dX10_advance_52 ⟨Nat.le_of_ble_eq_true rfl, Nat.le_of_ble_eq_true rfl⟩) (fun r301 u302 H locs hw303 hP hD hS => ?_)
            try dsimp only at hw303
            have hP : va_P G vwCl [(h0, oX10 b o_thrown o_taped o_size z3 z3 o_token o_value o_faultKind o_faultPlace o_lawNow o_walkSet o_oneWidow o_oneTurn o_askWorst o_mayWalk o_oftenAll o_oftenRoad o_oftenPegs), (b 4, .inl (cB, 900, .inl o_f4))] H := hP
            have hD : va_D A [(h0, oX10 b o_thrown o_taped o_size z3 z3 o_token o_value o_faultKind o_faultPlace o_lawNow o_walkSet o_oneWidow o_oneTurn o_askWorst o_mayWalk o_oftenAll o_oftenRoad o_oftenPegs), (b 4, .inl (cB, 900, .inl o_f4))] := hD
            rcases hw303 with ⟨rfl, s305, s306⟩ | ⟨s307, s308, s309, s310⟩
            · skip
              refine lv_istore_n (lv' := [(1, .int (-1)), (0, .ref h0)]) hx hb dX10_advance_55 rfl hl (by decide) rfl (fun ls hl => ?_)
              refine lv_iload_n hx hb dX10_advance_56 rfl (lv_at hl 0 rfl) ?_
              refine lv_iconst (v := (-1)) hx hb dX10_advance_57 (by decide) ?_
              refine lv_icmp_ne (tgt := 69) hx hb dX10_advance_58 (by decide) (fun c311 => absurd (by decide) c311) (fun c311 => ?_)
              refine lv_aload_n hx hb dX10_advance_61 rfl (lv_at hl 1 rfl) ?_
              refine lv_iconst (v := 0) hx hb dX10_advance_62 (by decide) ?_
              refine va_put (D := G) (ci := 10) (v := .int 0) (ty := .int) (C := RX10) (T := TX10) (N := 46) hx hb hts iG_X10 tyX10 tyX10_ok nmX10 hown hK hP hD hS 0 rfl rfl 10 (by decide) (hts _ w_1202) (fun _ h9 => h9) rfl (by decide +kernel) rfl rfl (Nat.le_of_ble_eq_true rfl) dX10_advance_63 (fun H locs hP hD hS => ?_)
              have hP : va_P G vwCl [(h0, oX10 b o_thrown o_taped o_size z3 z3 0 o_value o_faultKind o_faultPlace o_lawNow o_walkSet o_oneWidow o_oneTurn o_askWorst o_mayWalk o_oftenAll o_oftenRoad o_oftenPegs), (b 4, .inl (cB, 900, .inl o_f4))] H := hP
              have hD : va_D A [(h0, oX10 b o_thrown o_taped o_size z3 z3 0 o_value o_faultKind o_faultPlace o_lawNow o_walkSet o_oneWidow o_oneTurn o_askWorst o_mayWalk o_oftenAll o_oftenRoad o_oftenPegs), (b 4, .inl (cB, 900, .inl o_f4))] := hD
              refine lv_goto (tgt := 239) hx hb dX10_advance_66 (by decide) ?_
              exact hret _ _ _ _ (z3, z3, 0, o_value) hP hD hS dX10_advance_239 (show 0 ≤ z3.toInt ∧ z3.toInt ≤ 900 ∧ 0 ≤ z3.toInt ∧ z3.toInt ≤ 900 ∧ o_at.toInt ≤ z3.toInt ∧ z3.toInt ≤ z3.toInt ∧ ((0 : Int32).toInt = 0 ∨ z3.toInt < z3.toInt) from ⟨k4, (by omega), k4, (by omega), (by omega), (by omega), (Or.inl ki_0)⟩)
            · skip
              refine lv_istore_n (lv' := [(1, .int r301), (0, .ref h0)]) hx hb dX10_advance_55 rfl hl (by decide) rfl (fun ls hl => ?_)
              refine lv_iload_n hx hb dX10_advance_56 rfl (lv_at hl 0 rfl) ?_
              refine lv_iconst (v := (-1)) hx hb dX10_advance_57 (by decide) ?_
              refine lv_icmp_ne (tgt := 69) hx hb dX10_advance_58 (by decide) (fun c312 => ?_) (fun c312 => absurd (i_eq rfl ki_m1 c312) (by omega))
              have c312 := i_ne rfl ki_m1 c312
              refine lv_iload_n hx hb dX10_advance_69 rfl (lv_at hl 0 rfl) ?_
              obtain ⟨v313, ev313⟩ : ∃ y : Int64, r301.toInt64 = y := ⟨_, rfl⟩
              have tv313 : v313.toInt = r301.toInt := ti_wide rfl ev313
              refine lv_i2l (v := v313) hx hb dX10_advance_70 ev313 ?_
              refine lv_ldc2 (v := 97) hx hb hown (hts _ w_1367) dX10_advance_71 ?_
              refine lv_ldc2 (v := 122) hx hb hown (hts _ w_1368) dX10_advance_74 ?_
              refine k_i (wc := []) (wr := [(h0, oX10 b o_thrown o_taped o_size z3 z3 o_token o_value o_faultKind o_faultPlace o_lawNow o_walkSet o_oneWidow o_oneTurn o_askWorst o_mayWalk o_oftenAll o_oftenRoad o_oftenPegs), (b 4, .inl (cB, 900, .inl o_f4))]) hP hD hS hA [] [0, 1] rfl rfl rfl (by decide) (va_runS (As := [.long v313, .long 97, .long 122]) (rest := []) ⟨hx, hb, hml, hown, hts⟩ (f_X10_in l G cI cJ cZ cB cQ _ v313 r301.toInt 97 97 122 122 tv313 kl_97 kl_122) (va_cwS 3 hts (gS w_1336 w_1337 w_11 w_1338) rfl rfl rfl hd_X10_in ⟨Nat.le_of_ble_eq_true rfl, Nat.le_of_ble_eq_true rfl⟩) (mS hK hZ hP hD [] rfl rfl [.long v313, .long 97, .long 122]) rfl rfl hl.1 rfl (lv_room (Nat.le_of_ble_eq_true rfl)) dX10_advance_77 ⟨Nat.le_of_ble_eq_true rfl, Nat.le_of_ble_eq_true rfl⟩) (fun r314 u315 H locs hw316 hP hD hS => ?_)
              try dsimp only at hw316
              have hP : va_P G vwCl [(h0, oX10 b o_thrown o_taped o_size z3 z3 o_token o_value o_faultKind o_faultPlace o_lawNow o_walkSet o_oneWidow o_oneTurn o_askWorst o_mayWalk o_oftenAll o_oftenRoad o_oftenPegs), (b 4, .inl (cB, 900, .inl o_f4))] H := hP
              have hD : va_D A [(h0, oX10 b o_thrown o_taped o_size z3 z3 o_token o_value o_faultKind o_faultPlace o_lawNow o_walkSet o_oneWidow o_oneTurn o_askWorst o_mayWalk o_oftenAll o_oftenRoad o_oftenPegs), (b 4, .inl (cB, 900, .inl o_f4))] := hD
              rcases hw316 with ⟨rfl, a318, a319⟩ | ⟨rfl, a320⟩
              · skip
                refine lv_if_eq (tgt := 125) hx hb dX10_advance_80 (by decide) (fun c321 => absurd c321 (by decide)) (fun c321 => ?_)
                have lp322 : ∀ (n323 : Nat) (z324 : Int32), 0 ≤ z324.toInt → z324.toInt ≤ 900 → z3.toInt ≤ z324.toInt → z3.toInt < z324.toInt ∨ (97 ≤ seeI o_size.toInt o_f4 z324.toInt ∧ seeI o_size.toInt o_f4 z324.toInt ≤ 122) → 900 - z324.toInt < (n323 : Int) → ∀ (H : Heap) (locs : List Loc), va_P G vwCl [(h0, oX10 b o_thrown o_taped o_size z324 z3 o_token o_value o_faultKind o_faultPlace o_lawNow o_walkSet o_oneWidow o_oneTurn o_askWorst o_mayWalk o_oftenAll o_oftenRoad o_oftenPegs), (b 4, .inl (cB, 900, .inl o_f4))] H → va_D A [(h0, oX10 b o_thrown o_taped o_size z324 z3 o_token o_value o_faultKind o_faultPlace o_lawNow o_walkSet o_oneWidow o_oneTurn o_askWorst o_mayWalk o_oftenAll o_oftenRoad o_oftenPegs), (b 4, .inl (cB, 900, .inl o_f4))] → va_S A s.heap H locs → ∀ (ls : Array Slot), lv_has ls 2 [(1, .int r301), (0, .ref h0)] → W p l e ({ frames := 1, cells := 0, slots := 0, locals := 25 } : Room) s m ([.ref h0] : List Value).toArray below meth c H locs 0 0 Q (F0 m 83 ls []) := by
                  intro n323
                  induction n323 with
                  | zero =>
                    intro z324 k325 k326 ax326 ay326 mm328
                    exact absurd mm328 (by have q9 := fb_rng z324; omega)
                  | succ n323 ih327 =>
                    intro z324 k325 k326 ax326 ay326 mm328 H locs hP hD hS ls hl
                    refine lv_aload_n hx hb dX10_advance_83 rfl (lv_at hl 1 rfl) ?_
                    refine lv_aload_n hx hb dX10_advance_84 rfl (lv_at hl 1 rfl) ?_
                    refine va_get (D := G) (ci := 10) (v := .int z324) (C := RX10) (T := TX10) (N := 46) hx hb hts iG_X10 hown hK hP 0 rfl rfl 8 (by decide) (hts _ w_1200) (fun _ h9 => h9) rfl dX10_advance_85 ?_
                    refine k_i (wc := [(h0, oX10 b o_thrown o_taped o_size z324 z3 o_token o_value o_faultKind o_faultPlace o_lawNow o_walkSet o_oneWidow o_oneTurn o_askWorst o_mayWalk o_oftenAll o_oftenRoad o_oftenPegs), (b 4, .inl (cB, 900, .inl o_f4))]) (wr := []) hP hD hS hA [0, 1] [] rfl rfl rfl (by decide) (va_runV (As := [.int z324]) (rest := []) ⟨hx, hb, hml, hown, hts⟩ (f_X10_see l G cI cJ cZ cB cQ _ h0 z324 z324.toInt b o_thrown o_taped o_size z324 z3 o_token o_value o_faultKind o_faultPlace o_lawNow o_walkSet o_oneWidow o_oneTurn o_askWorst o_mayWalk o_oftenAll o_oftenRoad o_oftenPegs o_f4 rfl (by omega) hl_o_taped hh_o_taped hl_o_size hh_o_size k325 k326 k4 (by omega) hl_o_oneTurn hh_o_oneTurn) (cwV 1 hts (gV w_1363 w_1365 wp_84 w_11 w_1366) rfl rfl rfl ⟨rfl, hd_X10_see⟩ ⟨Nat.le_of_ble_eq_true rfl, Nat.le_of_ble_eq_true rfl⟩) (mV hK hZ hP hD [0, 1] rfl rfl [.int z324] 0 10 rfl rfl) rfl rfl hl.1 rfl (lv_room (Nat.le_of_ble_eq_true rfl)) dX10_advance_88 ⟨Nat.le_of_ble_eq_true rfl, Nat.le_of_ble_eq_true rfl⟩) (fun r329 u330 H locs hw331 hP hD hS => ?_)
                    try dsimp only at hw331
                    have hP : va_P G vwCl [(h0, oX10 b o_thrown o_taped o_size z324 z3 o_token o_value o_faultKind o_faultPlace o_lawNow o_walkSet o_oneWidow o_oneTurn o_askWorst o_mayWalk o_oftenAll o_oftenRoad o_oftenPegs), (b 4, .inl (cB, 900, .inl o_f4))] H := hP
                    have hD : va_D A [(h0, oX10 b o_thrown o_taped o_size z324 z3 o_token o_value o_faultKind o_faultPlace o_lawNow o_walkSet o_oneWidow o_oneTurn o_askWorst o_mayWalk o_oftenAll o_oftenRoad o_oftenPegs), (b 4, .inl (cB, 900, .inl o_f4))] := hD
                    rcases hw331 with ⟨rfl, s333, s334⟩ | ⟨s335, s336, s337, s338⟩
                    · skip
                      refine lv_i2l (v := (-1)) hx hb dX10_advance_91 (by decide) ?_
                      refine lv_ldc2 (v := 97) hx hb hown (hts _ w_1367) dX10_advance_92 ?_
                      refine lv_ldc2 (v := 122) hx hb hown (hts _ w_1368) dX10_advance_95 ?_
                      refine k_i (wc := []) (wr := [(h0, oX10 b o_thrown o_taped o_size z324 z3 o_token o_value o_faultKind o_faultPlace o_lawNow o_walkSet o_oneWidow o_oneTurn o_askWorst o_mayWalk o_oftenAll o_oftenRoad o_oftenPegs), (b 4, .inl (cB, 900, .inl o_f4))]) hP hD hS hA [] [0, 1] rfl rfl rfl (by decide) (va_runS (As := [.long (-1), .long 97, .long 122]) (rest := []) ⟨hx, hb, hml, hown, hts⟩ (f_X10_in l G cI cJ cZ cB cQ _ (-1) (-1) 97 97 122 122 kl_m1 kl_97 kl_122) (va_cwS 3 hts (gS w_1336 w_1337 w_11 w_1338) rfl rfl rfl hd_X10_in ⟨Nat.le_of_ble_eq_true rfl, Nat.le_of_ble_eq_true rfl⟩) (mS hK hZ hP hD [] rfl rfl [.long (-1), .long 97, .long 122]) rfl rfl hl.1 rfl (lv_room (Nat.le_of_ble_eq_true rfl)) dX10_advance_98 ⟨Nat.le_of_ble_eq_true rfl, Nat.le_of_ble_eq_true rfl⟩) (fun r340 u341 H locs hw342 hP hD hS => ?_)
                      try dsimp only at hw342
                      have hP : va_P G vwCl [(h0, oX10 b o_thrown o_taped o_size z324 z3 o_token o_value o_faultKind o_faultPlace o_lawNow o_walkSet o_oneWidow o_oneTurn o_askWorst o_mayWalk o_oftenAll o_oftenRoad o_oftenPegs), (b 4, .inl (cB, 900, .inl o_f4))] H := hP
                      have hD : va_D A [(h0, oX10 b o_thrown o_taped o_size z324 z3 o_token o_value o_faultKind o_faultPlace o_lawNow o_walkSet o_oneWidow o_oneTurn o_askWorst o_mayWalk o_oftenAll o_oftenRoad o_oftenPegs), (b 4, .inl (cB, 900, .inl o_f4))] := hD
                      rcases hw342 with ⟨rfl, a344, a345⟩ | ⟨rfl, a346⟩
                      · exact absurd (And.intro a344 a345) (by omega)
                      · skip
                        refine lv_if_eq (tgt := 117) hx hb dX10_advance_101 (by decide) (fun c347 => ?_) (fun c347 => absurd (by decide) c347)
                        refine lv_aload_n hx hb dX10_advance_117 rfl (lv_at hl 1 rfl) ?_
                        refine lv_iconst (v := 1) hx hb dX10_advance_118 (by decide) ?_
                        refine va_put (D := G) (ci := 10) (v := .int 1) (ty := .int) (C := RX10) (T := TX10) (N := 46) hx hb hts iG_X10 tyX10 tyX10_ok nmX10 hown hK hP hD hS 0 rfl rfl 10 (by decide) (hts _ w_1202) (fun _ h9 => h9) rfl (by decide +kernel) rfl rfl (Nat.le_of_ble_eq_true rfl) dX10_advance_119 (fun H locs hP hD hS => ?_)
                        have hP : va_P G vwCl [(h0, oX10 b o_thrown o_taped o_size z324 z3 1 o_value o_faultKind o_faultPlace o_lawNow o_walkSet o_oneWidow o_oneTurn o_askWorst o_mayWalk o_oftenAll o_oftenRoad o_oftenPegs), (b 4, .inl (cB, 900, .inl o_f4))] H := hP
                        have hD : va_D A [(h0, oX10 b o_thrown o_taped o_size z324 z3 1 o_value o_faultKind o_faultPlace o_lawNow o_walkSet o_oneWidow o_oneTurn o_askWorst o_mayWalk o_oftenAll o_oftenRoad o_oftenPegs), (b 4, .inl (cB, 900, .inl o_f4))] := hD
                        refine lv_goto (tgt := 239) hx hb dX10_advance_122 (by decide) ?_
                        exact hret _ _ _ _ (z324, z3, 1, o_value) hP hD hS dX10_advance_239 (show 0 ≤ z324.toInt ∧ z324.toInt ≤ 900 ∧ 0 ≤ z3.toInt ∧ z3.toInt ≤ 900 ∧ o_at.toInt ≤ z3.toInt ∧ z3.toInt ≤ z324.toInt ∧ ((1 : Int32).toInt = 0 ∨ z3.toInt < z324.toInt) from ⟨k325, k326, k4, (by omega), (by omega), (by omega), (Or.inr (by omega))⟩)
                    · skip
                      obtain ⟨v348, ev348⟩ : ∃ y : Int64, r329.toInt64 = y := ⟨_, rfl⟩
                      have tv348 : v348.toInt = r329.toInt := ti_wide rfl ev348
                      refine lv_i2l (v := v348) hx hb dX10_advance_91 ev348 ?_
                      refine lv_ldc2 (v := 97) hx hb hown (hts _ w_1367) dX10_advance_92 ?_
                      refine lv_ldc2 (v := 122) hx hb hown (hts _ w_1368) dX10_advance_95 ?_
                      refine k_i (wc := []) (wr := [(h0, oX10 b o_thrown o_taped o_size z324 z3 o_token o_value o_faultKind o_faultPlace o_lawNow o_walkSet o_oneWidow o_oneTurn o_askWorst o_mayWalk o_oftenAll o_oftenRoad o_oftenPegs), (b 4, .inl (cB, 900, .inl o_f4))]) hP hD hS hA [] [0, 1] rfl rfl rfl (by decide) (va_runS (As := [.long v348, .long 97, .long 122]) (rest := []) ⟨hx, hb, hml, hown, hts⟩ (f_X10_in l G cI cJ cZ cB cQ _ v348 r329.toInt 97 97 122 122 tv348 kl_97 kl_122) (va_cwS 3 hts (gS w_1336 w_1337 w_11 w_1338) rfl rfl rfl hd_X10_in ⟨Nat.le_of_ble_eq_true rfl, Nat.le_of_ble_eq_true rfl⟩) (mS hK hZ hP hD [] rfl rfl [.long v348, .long 97, .long 122]) rfl rfl hl.1 rfl (lv_room (Nat.le_of_ble_eq_true rfl)) dX10_advance_98 ⟨Nat.le_of_ble_eq_true rfl, Nat.le_of_ble_eq_true rfl⟩) (fun r349 u350 H locs hw351 hP hD hS => ?_)
                      try dsimp only at hw351
                      have hP : va_P G vwCl [(h0, oX10 b o_thrown o_taped o_size z324 z3 o_token o_value o_faultKind o_faultPlace o_lawNow o_walkSet o_oneWidow o_oneTurn o_askWorst o_mayWalk o_oftenAll o_oftenRoad o_oftenPegs), (b 4, .inl (cB, 900, .inl o_f4))] H := hP
                      have hD : va_D A [(h0, oX10 b o_thrown o_taped o_size z324 z3 o_token o_value o_faultKind o_faultPlace o_lawNow o_walkSet o_oneWidow o_oneTurn o_askWorst o_mayWalk o_oftenAll o_oftenRoad o_oftenPegs), (b 4, .inl (cB, 900, .inl o_f4))] := hD
                      rcases hw351 with ⟨rfl, a353, a354⟩ | ⟨rfl, a355⟩
                      · skip
                        refine lv_if_eq (tgt := 117) hx hb dX10_advance_101 (by decide) (fun c356 => absurd c356 (by decide)) (fun c356 => ?_)
                        refine lv_aload_n hx hb dX10_advance_104 rfl (lv_at hl 1 rfl) ?_
                        refine lv_dup hx hb dX10_advance_105 rfl ?_
                        refine va_get (D := G) (ci := 10) (v := .int z324) (C := RX10) (T := TX10) (N := 46) hx hb hts iG_X10 hown hK hP 0 rfl rfl 8 (by decide) (hts _ w_1200) (fun _ h9 => h9) rfl dX10_advance_106 ?_
                        refine lv_iconst (v := 1) hx hb dX10_advance_109 (by decide) ?_
                        refine lv_iadd hx hb dX10_advance_110 ?_
                        refine lv_topi (fun v357 ev357 => ?_)
                        have tv357 : v357.toInt = z324.toInt + 1 := ti_add rfl ki_1 ev357 (by omega) (by omega)
                        refine va_put (D := G) (ci := 10) (v := .int v357) (ty := .int) (C := RX10) (T := TX10) (N := 46) hx hb hts iG_X10 tyX10 tyX10_ok nmX10 hown hK hP hD hS 0 rfl rfl 8 (by decide) (hts _ w_1200) (fun _ h9 => h9) rfl (by decide +kernel) rfl rfl (Nat.le_of_ble_eq_true rfl) dX10_advance_111 (fun H locs hP hD hS => ?_)
                        have hP : va_P G vwCl [(h0, oX10 b o_thrown o_taped o_size v357 z3 o_token o_value o_faultKind o_faultPlace o_lawNow o_walkSet o_oneWidow o_oneTurn o_askWorst o_mayWalk o_oftenAll o_oftenRoad o_oftenPegs), (b 4, .inl (cB, 900, .inl o_f4))] H := hP
                        have hD : va_D A [(h0, oX10 b o_thrown o_taped o_size v357 z3 o_token o_value o_faultKind o_faultPlace o_lawNow o_walkSet o_oneWidow o_oneTurn o_askWorst o_mayWalk o_oftenAll o_oftenRoad o_oftenPegs), (b 4, .inl (cB, 900, .inl o_f4))] := hD
                        refine lv_goto (tgt := 83) hx hb dX10_advance_114 (by decide) ?_
                        exact ih327 v357 (by omega) (by omega) (by omega) (by omega) (by omega) _ _ hP hD hS ls (lv_sub hl [0, 1] rfl)
                      · skip
                        refine lv_if_eq (tgt := 117) hx hb dX10_advance_101 (by decide) (fun c358 => ?_) (fun c358 => absurd (by decide) c358)
                        refine lv_aload_n hx hb dX10_advance_117 rfl (lv_at hl 1 rfl) ?_
                        refine lv_iconst (v := 1) hx hb dX10_advance_118 (by decide) ?_
                        refine va_put (D := G) (ci := 10) (v := .int 1) (ty := .int) (C := RX10) (T := TX10) (N := 46) hx hb hts iG_X10 tyX10 tyX10_ok nmX10 hown hK hP hD hS 0 rfl rfl 10 (by decide) (hts _ w_1202) (fun _ h9 => h9) rfl (by decide +kernel) rfl rfl (Nat.le_of_ble_eq_true rfl) dX10_advance_119 (fun H locs hP hD hS => ?_)
                        have hP : va_P G vwCl [(h0, oX10 b o_thrown o_taped o_size z324 z3 1 o_value o_faultKind o_faultPlace o_lawNow o_walkSet o_oneWidow o_oneTurn o_askWorst o_mayWalk o_oftenAll o_oftenRoad o_oftenPegs), (b 4, .inl (cB, 900, .inl o_f4))] H := hP
                        have hD : va_D A [(h0, oX10 b o_thrown o_taped o_size z324 z3 1 o_value o_faultKind o_faultPlace o_lawNow o_walkSet o_oneWidow o_oneTurn o_askWorst o_mayWalk o_oftenAll o_oftenRoad o_oftenPegs), (b 4, .inl (cB, 900, .inl o_f4))] := hD
                        refine lv_goto (tgt := 239) hx hb dX10_advance_122 (by decide) ?_
                        exact hret _ _ _ _ (z324, z3, 1, o_value) hP hD hS dX10_advance_239 (show 0 ≤ z324.toInt ∧ z324.toInt ≤ 900 ∧ 0 ≤ z3.toInt ∧ z3.toInt ≤ 900 ∧ o_at.toInt ≤ z3.toInt ∧ z3.toInt ≤ z324.toInt ∧ ((1 : Int32).toInt = 0 ∨ z3.toInt < z324.toInt) from ⟨k325, (by omega), k4, (by omega), (by omega), (by omega), (Or.inr (by omega))⟩)
                exact lp322 901 z3 k4 (by omega) (by omega) (by omega) (by have q9 := fb_rng z3; omega) _ _ hP hD hS ls (lv_sub hl [0, 1] rfl)
              · skip
                refine lv_if_eq (tgt := 125) hx hb dX10_advance_80 (by decide) (fun c359 => ?_) (fun c359 => absurd (by decide) c359)
                refine lv_iload_n hx hb dX10_advance_125 rfl (lv_at hl 0 rfl) ?_
                obtain ⟨v360, ev360⟩ : ∃ y : Int64, r301.toInt64 = y := ⟨_, rfl⟩
                have tv360 : v360.toInt = r301.toInt := ti_wide rfl ev360
                refine lv_i2l (v := v360) hx hb dX10_advance_126 ev360 ?_
                refine lv_ldc2 (v := 48) hx hb hown (hts _ w_1369) dX10_advance_127 ?_
                refine lv_ldc2 (v := 57) hx hb hown (hts _ w_1370) dX10_advance_130 ?_
                refine k_i (wc := []) (wr := [(h0, oX10 b o_thrown o_taped o_size z3 z3 o_token o_value o_faultKind o_faultPlace o_lawNow o_walkSet o_oneWidow o_oneTurn o_askWorst o_mayWalk o_oftenAll o_oftenRoad o_oftenPegs), (b 4, .inl (cB, 900, .inl o_f4))]) hP hD hS hA [] [0, 1] rfl rfl rfl (by decide) (va_runS (As := [.long v360, .long 48, .long 57]) (rest := []) ⟨hx, hb, hml, hown, hts⟩ (f_X10_in l G cI cJ cZ cB cQ _ v360 r301.toInt 48 48 57 57 tv360 kl_48 kl_57) (va_cwS 3 hts (gS w_1336 w_1337 w_11 w_1338) rfl rfl rfl hd_X10_in ⟨Nat.le_of_ble_eq_true rfl, Nat.le_of_ble_eq_true rfl⟩) (mS hK hZ hP hD [] rfl rfl [.long v360, .long 48, .long 57]) rfl rfl hl.1 rfl (lv_room (Nat.le_of_ble_eq_true rfl)) dX10_advance_133 ⟨Nat.le_of_ble_eq_true rfl, Nat.le_of_ble_eq_true rfl⟩) (fun r361 u362 H locs hw363 hP hD hS => ?_)
                try dsimp only at hw363
                have hP : va_P G vwCl [(h0, oX10 b o_thrown o_taped o_size z3 z3 o_token o_value o_faultKind o_faultPlace o_lawNow o_walkSet o_oneWidow o_oneTurn o_askWorst o_mayWalk o_oftenAll o_oftenRoad o_oftenPegs), (b 4, .inl (cB, 900, .inl o_f4))] H := hP
                have hD : va_D A [(h0, oX10 b o_thrown o_taped o_size z3 z3 o_token o_value o_faultKind o_faultPlace o_lawNow o_walkSet o_oneWidow o_oneTurn o_askWorst o_mayWalk o_oftenAll o_oftenRoad o_oftenPegs), (b 4, .inl (cB, 900, .inl o_f4))] := hD
                rcases hw363 with ⟨rfl, a365, a366⟩ | ⟨rfl, a367⟩
                · skip
                  refine lv_if_eq (tgt := 214) hx hb dX10_advance_136 (by decide) (fun c368 => absurd c368 (by decide)) (fun c368 => ?_)
                  refine lv_aload_n hx hb dX10_advance_139 rfl (lv_at hl 1 rfl) ?_
                  refine lv_iconst (v := 0) hx hb dX10_advance_140 (by decide) ?_
                  refine va_put (D := G) (ci := 10) (v := .int 0) (ty := .int) (C := RX10) (T := TX10) (N := 46) hx hb hts iG_X10 tyX10 tyX10_ok nmX10 hown hK hP hD hS 0 rfl rfl 11 (by decide) (hts _ w_1203) (fun _ h9 => h9) rfl (by decide +kernel) rfl rfl (Nat.le_of_ble_eq_true rfl) dX10_advance_141 (fun H locs hP hD hS => ?_)
                  have hP : va_P G vwCl [(h0, oX10 b o_thrown o_taped o_size z3 z3 o_token 0 o_faultKind o_faultPlace o_lawNow o_walkSet o_oneWidow o_oneTurn o_askWorst o_mayWalk o_oftenAll o_oftenRoad o_oftenPegs), (b 4, .inl (cB, 900, .inl o_f4))] H := hP
                  have hD : va_D A [(h0, oX10 b o_thrown o_taped o_size z3 z3 o_token 0 o_faultKind o_faultPlace o_lawNow o_walkSet o_oneWidow o_oneTurn o_askWorst o_mayWalk o_oftenAll o_oftenRoad o_oftenPegs), (b 4, .inl (cB, 900, .inl o_f4))] := hD
                  have lp369 : ∀ (n370 : Nat) (z371 : Int32) (z372 : Int32), 0 ≤ z372.toInt → z372.toInt ≤ 900 → z3.toInt ≤ z372.toInt → z3.toInt < z372.toInt ∨ (48 ≤ seeI o_size.toInt o_f4 z372.toInt ∧ seeI o_size.toInt o_f4 z372.toInt ≤ 57) → 900 - z372.toInt < (n370 : Int) → ∀ (H : Heap) (locs : List Loc), va_P G vwCl [(h0, oX10 b o_thrown o_taped o_size z372 z3 o_token z371 o_faultKind o_faultPlace o_lawNow o_walkSet o_oneWidow o_oneTurn o_askWorst o_mayWalk o_oftenAll o_oftenRoad o_oftenPegs), (b 4, .inl (cB, 900, .inl o_f4))] H → va_D A [(h0, oX10 b o_thrown o_taped o_size z372 z3 o_token z371 o_faultKind o_faultPlace o_lawNow o_walkSet o_oneWidow o_oneTurn o_askWorst o_mayWalk o_oftenAll o_oftenRoad o_oftenPegs), (b 4, .inl (cB, 900, .inl o_f4))] → va_S A s.heap H locs → ∀ (ls : Array Slot), lv_has ls 2 [(1, .int r301), (0, .ref h0)] → W p l e ({ frames := 1, cells := 0, slots := 0, locals := 25 } : Room) s m ([.ref h0] : List Value).toArray below meth c H locs 0 0 Q (F0 m 144 ls []) := by
                    intro n370
                    induction n370 with
                    | zero =>
                      intro z371 z372 k373 k374 ax374 ay374 mm376
                      exact absurd mm376 (by have q9 := fb_rng z372; omega)
                    | succ n370 ih375 =>
                      intro z371 z372 k373 k374 ax374 ay374 mm376 H locs hP hD hS ls hl
                      refine lv_aload_n hx hb dX10_advance_144 rfl (lv_at hl 1 rfl) ?_
                      refine lv_aload_n hx hb dX10_advance_145 rfl (lv_at hl 1 rfl) ?_
                      refine va_get (D := G) (ci := 10) (v := .int z372) (C := RX10) (T := TX10) (N := 46) hx hb hts iG_X10 hown hK hP 0 rfl rfl 8 (by decide) (hts _ w_1200) (fun _ h9 => h9) rfl dX10_advance_146 ?_
                      refine k_i (wc := [(h0, oX10 b o_thrown o_taped o_size z372 z3 o_token z371 o_faultKind o_faultPlace o_lawNow o_walkSet o_oneWidow o_oneTurn o_askWorst o_mayWalk o_oftenAll o_oftenRoad o_oftenPegs), (b 4, .inl (cB, 900, .inl o_f4))]) (wr := []) hP hD hS hA [0, 1] [] rfl rfl rfl (by decide) (va_runV (As := [.int z372]) (rest := []) ⟨hx, hb, hml, hown, hts⟩ (f_X10_see l G cI cJ cZ cB cQ _ h0 z372 z372.toInt b o_thrown o_taped o_size z372 z3 o_token z371 o_faultKind o_faultPlace o_lawNow o_walkSet o_oneWidow o_oneTurn o_askWorst o_mayWalk o_oftenAll o_oftenRoad o_oftenPegs o_f4 rfl (by omega) hl_o_taped hh_o_taped hl_o_size hh_o_size k373 k374 k4 (by omega) hl_o_oneTurn hh_o_oneTurn) (cwV 1 hts (gV w_1363 w_1365 wp_84 w_11 w_1366) rfl rfl rfl ⟨rfl, hd_X10_see⟩ ⟨Nat.le_of_ble_eq_true rfl, Nat.le_of_ble_eq_true rfl⟩) (mV hK hZ hP hD [0, 1] rfl rfl [.int z372] 0 10 rfl rfl) rfl rfl hl.1 rfl (lv_room (Nat.le_of_ble_eq_true rfl)) dX10_advance_149 ⟨Nat.le_of_ble_eq_true rfl, Nat.le_of_ble_eq_true rfl⟩) (fun r377 u378 H locs hw379 hP hD hS => ?_)
                      try dsimp only at hw379
                      have hP : va_P G vwCl [(h0, oX10 b o_thrown o_taped o_size z372 z3 o_token z371 o_faultKind o_faultPlace o_lawNow o_walkSet o_oneWidow o_oneTurn o_askWorst o_mayWalk o_oftenAll o_oftenRoad o_oftenPegs), (b 4, .inl (cB, 900, .inl o_f4))] H := hP
                      have hD : va_D A [(h0, oX10 b o_thrown o_taped o_size z372 z3 o_token z371 o_faultKind o_faultPlace o_lawNow o_walkSet o_oneWidow o_oneTurn o_askWorst o_mayWalk o_oftenAll o_oftenRoad o_oftenPegs), (b 4, .inl (cB, 900, .inl o_f4))] := hD
                      rcases hw379 with ⟨rfl, s381, s382⟩ | ⟨s383, s384, s385, s386⟩
                      · skip
                        refine lv_i2l (v := (-1)) hx hb dX10_advance_152 (by decide) ?_
                        refine lv_ldc2 (v := 48) hx hb hown (hts _ w_1369) dX10_advance_153 ?_
                        refine lv_ldc2 (v := 57) hx hb hown (hts _ w_1370) dX10_advance_156 ?_
                        refine k_i (wc := []) (wr := [(h0, oX10 b o_thrown o_taped o_size z372 z3 o_token z371 o_faultKind o_faultPlace o_lawNow o_walkSet o_oneWidow o_oneTurn o_askWorst o_mayWalk o_oftenAll o_oftenRoad o_oftenPegs), (b 4, .inl (cB, 900, .inl o_f4))]) hP hD hS hA [] [0, 1] rfl rfl rfl (by decide) (va_runS (As := [.long (-1), .long 48, .long 57]) (rest := []) ⟨hx, hb, hml, hown, hts⟩ (f_X10_in l G cI cJ cZ cB cQ _ (-1) (-1) 48 48 57 57 kl_m1 kl_48 kl_57) (va_cwS 3 hts (gS w_1336 w_1337 w_11 w_1338) rfl rfl rfl hd_X10_in ⟨Nat.le_of_ble_eq_true rfl, Nat.le_of_ble_eq_true rfl⟩) (mS hK hZ hP hD [] rfl rfl [.long (-1), .long 48, .long 57]) rfl rfl hl.1 rfl (lv_room (Nat.le_of_ble_eq_true rfl)) dX10_advance_159 ⟨Nat.le_of_ble_eq_true rfl, Nat.le_of_ble_eq_true rfl⟩) (fun r388 u389 H locs hw390 hP hD hS => ?_)
                        try dsimp only at hw390
                        have hP : va_P G vwCl [(h0, oX10 b o_thrown o_taped o_size z372 z3 o_token z371 o_faultKind o_faultPlace o_lawNow o_walkSet o_oneWidow o_oneTurn o_askWorst o_mayWalk o_oftenAll o_oftenRoad o_oftenPegs), (b 4, .inl (cB, 900, .inl o_f4))] H := hP
                        have hD : va_D A [(h0, oX10 b o_thrown o_taped o_size z372 z3 o_token z371 o_faultKind o_faultPlace o_lawNow o_walkSet o_oneWidow o_oneTurn o_askWorst o_mayWalk o_oftenAll o_oftenRoad o_oftenPegs), (b 4, .inl (cB, 900, .inl o_f4))] := hD
                        rcases hw390 with ⟨rfl, a392, a393⟩ | ⟨rfl, a394⟩
                        · exact absurd (And.intro a392 a393) (by omega)
                        · skip
                          refine lv_if_eq (tgt := 206) hx hb dX10_advance_162 (by decide) (fun c395 => ?_) (fun c395 => absurd (by decide) c395)
                          refine lv_aload_n hx hb dX10_advance_206 rfl (lv_at hl 1 rfl) ?_
                          refine lv_iconst (v := 2) hx hb dX10_advance_207 (by decide) ?_
                          refine va_put (D := G) (ci := 10) (v := .int 2) (ty := .int) (C := RX10) (T := TX10) (N := 46) hx hb hts iG_X10 tyX10 tyX10_ok nmX10 hown hK hP hD hS 0 rfl rfl 10 (by decide) (hts _ w_1202) (fun _ h9 => h9) rfl (by decide +kernel) rfl rfl (Nat.le_of_ble_eq_true rfl) dX10_advance_208 (fun H locs hP hD hS => ?_)
                          have hP : va_P G vwCl [(h0, oX10 b o_thrown o_taped o_size z372 z3 2 z371 o_faultKind o_faultPlace o_lawNow o_walkSet o_oneWidow o_oneTurn o_askWorst o_mayWalk o_oftenAll o_oftenRoad o_oftenPegs), (b 4, .inl (cB, 900, .inl o_f4))] H := hP
                          have hD : va_D A [(h0, oX10 b o_thrown o_taped o_size z372 z3 2 z371 o_faultKind o_faultPlace o_lawNow o_walkSet o_oneWidow o_oneTurn o_askWorst o_mayWalk o_oftenAll o_oftenRoad o_oftenPegs), (b 4, .inl (cB, 900, .inl o_f4))] := hD
                          refine lv_goto (tgt := 239) hx hb dX10_advance_211 (by decide) ?_
                          exact hret _ _ _ _ (z372, z3, 2, z371) hP hD hS dX10_advance_239 (show 0 ≤ z372.toInt ∧ z372.toInt ≤ 900 ∧ 0 ≤ z3.toInt ∧ z3.toInt ≤ 900 ∧ o_at.toInt ≤ z3.toInt ∧ z3.toInt ≤ z372.toInt ∧ ((2 : Int32).toInt = 0 ∨ z3.toInt < z372.toInt) from ⟨k373, k374, k4, (by omega), (by omega), (by omega), (Or.inr (by omega))⟩)
                      · skip
                        obtain ⟨v396, ev396⟩ : ∃ y : Int64, r377.toInt64 = y := ⟨_, rfl⟩
                        have tv396 : v396.toInt = r377.toInt := ti_wide rfl ev396
                        refine lv_i2l (v := v396) hx hb dX10_advance_152 ev396 ?_
                        refine lv_ldc2 (v := 48) hx hb hown (hts _ w_1369) dX10_advance_153 ?_
                        refine lv_ldc2 (v := 57) hx hb hown (hts _ w_1370) dX10_advance_156 ?_
                        refine k_i (wc := []) (wr := [(h0, oX10 b o_thrown o_taped o_size z372 z3 o_token z371 o_faultKind o_faultPlace o_lawNow o_walkSet o_oneWidow o_oneTurn o_askWorst o_mayWalk o_oftenAll o_oftenRoad o_oftenPegs), (b 4, .inl (cB, 900, .inl o_f4))]) hP hD hS hA [] [0, 1] rfl rfl rfl (by decide) (va_runS (As := [.long v396, .long 48, .long 57]) (rest := []) ⟨hx, hb, hml, hown, hts⟩ (f_X10_in l G cI cJ cZ cB cQ _ v396 r377.toInt 48 48 57 57 tv396 kl_48 kl_57) (va_cwS 3 hts (gS w_1336 w_1337 w_11 w_1338) rfl rfl rfl hd_X10_in ⟨Nat.le_of_ble_eq_true rfl, Nat.le_of_ble_eq_true rfl⟩) (mS hK hZ hP hD [] rfl rfl [.long v396, .long 48, .long 57]) rfl rfl hl.1 rfl (lv_room (Nat.le_of_ble_eq_true rfl)) dX10_advance_159 ⟨Nat.le_of_ble_eq_true rfl, Nat.le_of_ble_eq_true rfl⟩) (fun r397 u398 H locs hw399 hP hD hS => ?_)
                        try dsimp only at hw399
                        have hP : va_P G vwCl [(h0, oX10 b o_thrown o_taped o_size z372 z3 o_token z371 o_faultKind o_faultPlace o_lawNow o_walkSet o_oneWidow o_oneTurn o_askWorst o_mayWalk o_oftenAll o_oftenRoad o_oftenPegs), (b 4, .inl (cB, 900, .inl o_f4))] H := hP
                        have hD : va_D A [(h0, oX10 b o_thrown o_taped o_size z372 z3 o_token z371 o_faultKind o_faultPlace o_lawNow o_walkSet o_oneWidow o_oneTurn o_askWorst o_mayWalk o_oftenAll o_oftenRoad o_oftenPegs), (b 4, .inl (cB, 900, .inl o_f4))] := hD
                        rcases hw399 with ⟨rfl, a401, a402⟩ | ⟨rfl, a403⟩
                        · skip
                          refine lv_if_eq (tgt := 206) hx hb dX10_advance_162 (by decide) (fun c404 => absurd c404 (by decide)) (fun c404 => ?_)
                          refine lv_aload_n hx hb dX10_advance_165 rfl (lv_at hl 1 rfl) ?_
                          refine lv_ldc (v := 99999) hx hb hown (hts _ w_1371) dX10_advance_166 ?_
                          refine lv_bipush (v := 10) hx hb dX10_advance_168 (by decide) ?_
                          refine lv_aload_n hx hb dX10_advance_170 rfl (lv_at hl 1 rfl) ?_
                          refine va_get (D := G) (ci := 10) (v := .int z371) (C := RX10) (T := TX10) (N := 46) hx hb hts iG_X10 hown hK hP 0 rfl rfl 11 (by decide) (hts _ w_1203) (fun _ h9 => h9) rfl dX10_advance_171 ?_
                          refine lv_imul hx hb dX10_advance_174 ?_
                          refine lv_topi (fun v405 ev405 => ?_)
                          refine lv_aload_n hx hb dX10_advance_175 rfl (lv_at hl 1 rfl) ?_
                          refine lv_aload_n hx hb dX10_advance_176 rfl (lv_at hl 1 rfl) ?_
                          refine va_get (D := G) (ci := 10) (v := .int z372) (C := RX10) (T := TX10) (N := 46) hx hb hts iG_X10 hown hK hP 0 rfl rfl 8 (by decide) (hts _ w_1200) (fun _ h9 => h9) rfl dX10_advance_177 ?_
                          refine k_i (wc := [(h0, oX10 b o_thrown o_taped o_size z372 z3 o_token z371 o_faultKind o_faultPlace o_lawNow o_walkSet o_oneWidow o_oneTurn o_askWorst o_mayWalk o_oftenAll o_oftenRoad o_oftenPegs), (b 4, .inl (cB, 900, .inl o_f4))]) (wr := []) hP hD hS hA [0, 1] [] rfl rfl rfl (by decide) (va_runV (As := [.int z372]) (rest := [.int v405, .int 99999, .ref h0]) ⟨hx, hb, hml, hown, hts⟩ (f_X10_see l G cI cJ cZ cB cQ _ h0 z372 z372.toInt b o_thrown o_taped o_size z372 z3 o_token z371 o_faultKind o_faultPlace o_lawNow o_walkSet o_oneWidow o_oneTurn o_askWorst o_mayWalk o_oftenAll o_oftenRoad o_oftenPegs o_f4 rfl (by omega) hl_o_taped hh_o_taped hl_o_size hh_o_size k373 (by omega) k4 (by omega) hl_o_oneTurn hh_o_oneTurn) (cwV 1 hts (gV w_1363 w_1365 wp_84 w_11 w_1366) rfl rfl rfl ⟨rfl, hd_X10_see⟩ ⟨Nat.le_of_ble_eq_true rfl, Nat.le_of_ble_eq_true rfl⟩) (mV hK hZ hP hD [0, 1] rfl rfl [.int z372] 0 10 rfl rfl) rfl rfl hl.1 rfl (lv_room (Nat.le_of_ble_eq_true rfl)) dX10_advance_180 ⟨Nat.le_of_ble_eq_true rfl, Nat.le_of_ble_eq_true rfl⟩) (fun r406 u407 H locs hw408 hP hD hS => ?_)
                          try dsimp only at hw408
                          have hP : va_P G vwCl [(h0, oX10 b o_thrown o_taped o_size z372 z3 o_token z371 o_faultKind o_faultPlace o_lawNow o_walkSet o_oneWidow o_oneTurn o_askWorst o_mayWalk o_oftenAll o_oftenRoad o_oftenPegs), (b 4, .inl (cB, 900, .inl o_f4))] H := hP
                          have hD : va_D A [(h0, oX10 b o_thrown o_taped o_size z372 z3 o_token z371 o_faultKind o_faultPlace o_lawNow o_walkSet o_oneWidow o_oneTurn o_askWorst o_mayWalk o_oftenAll o_oftenRoad o_oftenPegs), (b 4, .inl (cB, 900, .inl o_f4))] := hD
                          rcases hw408 with ⟨rfl, s410, s411⟩ | ⟨s412, s413, s414, s415⟩
                          · skip
                            refine lv_iadd hx hb dX10_advance_183 ?_
                            refine lv_topi (fun v416 ev416 => ?_)
                            refine lv_bipush (v := 48) hx hb dX10_advance_184 (by decide) ?_
                            refine lv_isub hx hb dX10_advance_186 ?_
                            refine lv_topi (fun v417 ev417 => ?_)
                            refine va_mmin hx hb (by rw [hml]; exact hl.1.symm) hown (hts _ w_1372) (hts _ w_502) (hts _ w_16) (hts _ w_503) (Nat.le_of_ble_eq_true rfl) (Nat.le_of_ble_eq_true rfl) (Nat.le_of_ble_eq_true rfl) (Nat.le_of_ble_eq_true rfl) dX10_advance_187 ?_
                            refine lv_topi (fun v418 ev418 => ?_)
                            refine va_put (D := G) (ci := 10) (v := .int v418) (ty := .int) (C := RX10) (T := TX10) (N := 46) hx hb hts iG_X10 tyX10 tyX10_ok nmX10 hown hK hP hD hS 0 rfl rfl 11 (by decide) (hts _ w_1203) (fun _ h9 => h9) rfl (by decide +kernel) rfl rfl (Nat.le_of_ble_eq_true rfl) dX10_advance_190 (fun H locs hP hD hS => ?_)
                            have hP : va_P G vwCl [(h0, oX10 b o_thrown o_taped o_size z372 z3 o_token v418 o_faultKind o_faultPlace o_lawNow o_walkSet o_oneWidow o_oneTurn o_askWorst o_mayWalk o_oftenAll o_oftenRoad o_oftenPegs), (b 4, .inl (cB, 900, .inl o_f4))] H := hP
                            have hD : va_D A [(h0, oX10 b o_thrown o_taped o_size z372 z3 o_token v418 o_faultKind o_faultPlace o_lawNow o_walkSet o_oneWidow o_oneTurn o_askWorst o_mayWalk o_oftenAll o_oftenRoad o_oftenPegs), (b 4, .inl (cB, 900, .inl o_f4))] := hD
                            refine lv_aload_n hx hb dX10_advance_193 rfl (lv_at hl 1 rfl) ?_
                            refine lv_dup hx hb dX10_advance_194 rfl ?_
                            refine va_get (D := G) (ci := 10) (v := .int z372) (C := RX10) (T := TX10) (N := 46) hx hb hts iG_X10 hown hK hP 0 rfl rfl 8 (by decide) (hts _ w_1200) (fun _ h9 => h9) rfl dX10_advance_195 ?_
                            refine lv_iconst (v := 1) hx hb dX10_advance_198 (by decide) ?_
                            refine lv_iadd hx hb dX10_advance_199 ?_
                            refine lv_topi (fun v419 ev419 => ?_)
                            have tv419 : v419.toInt = z372.toInt + 1 := ti_add rfl ki_1 ev419 (by omega) (by omega)
                            refine va_put (D := G) (ci := 10) (v := .int v419) (ty := .int) (C := RX10) (T := TX10) (N := 46) hx hb hts iG_X10 tyX10 tyX10_ok nmX10 hown hK hP hD hS 0 rfl rfl 8 (by decide) (hts _ w_1200) (fun _ h9 => h9) rfl (by decide +kernel) rfl rfl (Nat.le_of_ble_eq_true rfl) dX10_advance_200 (fun H locs hP hD hS => ?_)
                            have hP : va_P G vwCl [(h0, oX10 b o_thrown o_taped o_size v419 z3 o_token v418 o_faultKind o_faultPlace o_lawNow o_walkSet o_oneWidow o_oneTurn o_askWorst o_mayWalk o_oftenAll o_oftenRoad o_oftenPegs), (b 4, .inl (cB, 900, .inl o_f4))] H := hP
                            have hD : va_D A [(h0, oX10 b o_thrown o_taped o_size v419 z3 o_token v418 o_faultKind o_faultPlace o_lawNow o_walkSet o_oneWidow o_oneTurn o_askWorst o_mayWalk o_oftenAll o_oftenRoad o_oftenPegs), (b 4, .inl (cB, 900, .inl o_f4))] := hD
                            refine lv_goto (tgt := 144) hx hb dX10_advance_203 (by decide) ?_
                            exact ih375 v418 v419 (by omega) (by omega) (by omega) (by omega) (by omega) _ _ hP hD hS ls (lv_sub hl [0, 1] rfl)
                          · skip
                            refine lv_iadd hx hb dX10_advance_183 ?_
                            refine lv_topi (fun v420 ev420 => ?_)
                            refine lv_bipush (v := 48) hx hb dX10_advance_184 (by decide) ?_
                            refine lv_isub hx hb dX10_advance_186 ?_
                            refine lv_topi (fun v421 ev421 => ?_)
                            refine va_mmin hx hb (by rw [hml]; exact hl.1.symm) hown (hts _ w_1372) (hts _ w_502) (hts _ w_16) (hts _ w_503) (Nat.le_of_ble_eq_true rfl) (Nat.le_of_ble_eq_true rfl) (Nat.le_of_ble_eq_true rfl) (Nat.le_of_ble_eq_true rfl) dX10_advance_187 ?_
                            refine lv_topi (fun v422 ev422 => ?_)
                            refine va_put (D := G) (ci := 10) (v := .int v422) (ty := .int) (C := RX10) (T := TX10) (N := 46) hx hb hts iG_X10 tyX10 tyX10_ok nmX10 hown hK hP hD hS 0 rfl rfl 11 (by decide) (hts _ w_1203) (fun _ h9 => h9) rfl (by decide +kernel) rfl rfl (Nat.le_of_ble_eq_true rfl) dX10_advance_190 (fun H locs hP hD hS => ?_)
                            have hP : va_P G vwCl [(h0, oX10 b o_thrown o_taped o_size z372 z3 o_token v422 o_faultKind o_faultPlace o_lawNow o_walkSet o_oneWidow o_oneTurn o_askWorst o_mayWalk o_oftenAll o_oftenRoad o_oftenPegs), (b 4, .inl (cB, 900, .inl o_f4))] H := hP
                            have hD : va_D A [(h0, oX10 b o_thrown o_taped o_size z372 z3 o_token v422 o_faultKind o_faultPlace o_lawNow o_walkSet o_oneWidow o_oneTurn o_askWorst o_mayWalk o_oftenAll o_oftenRoad o_oftenPegs), (b 4, .inl (cB, 900, .inl o_f4))] := hD
                            refine lv_aload_n hx hb dX10_advance_193 rfl (lv_at hl 1 rfl) ?_
                            refine lv_dup hx hb dX10_advance_194 rfl ?_
                            refine va_get (D := G) (ci := 10) (v := .int z372) (C := RX10) (T := TX10) (N := 46) hx hb hts iG_X10 hown hK hP 0 rfl rfl 8 (by decide) (hts _ w_1200) (fun _ h9 => h9) rfl dX10_advance_195 ?_
                            refine lv_iconst (v := 1) hx hb dX10_advance_198 (by decide) ?_
                            refine lv_iadd hx hb dX10_advance_199 ?_
                            refine lv_topi (fun v423 ev423 => ?_)
                            have tv423 : v423.toInt = z372.toInt + 1 := ti_add rfl ki_1 ev423 (by omega) (by omega)
                            refine va_put (D := G) (ci := 10) (v := .int v423) (ty := .int) (C := RX10) (T := TX10) (N := 46) hx hb hts iG_X10 tyX10 tyX10_ok nmX10 hown hK hP hD hS 0 rfl rfl 8 (by decide) (hts _ w_1200) (fun _ h9 => h9) rfl (by decide +kernel) rfl rfl (Nat.le_of_ble_eq_true rfl) dX10_advance_200 (fun H locs hP hD hS => ?_)
                            have hP : va_P G vwCl [(h0, oX10 b o_thrown o_taped o_size v423 z3 o_token v422 o_faultKind o_faultPlace o_lawNow o_walkSet o_oneWidow o_oneTurn o_askWorst o_mayWalk o_oftenAll o_oftenRoad o_oftenPegs), (b 4, .inl (cB, 900, .inl o_f4))] H := hP
                            have hD : va_D A [(h0, oX10 b o_thrown o_taped o_size v423 z3 o_token v422 o_faultKind o_faultPlace o_lawNow o_walkSet o_oneWidow o_oneTurn o_askWorst o_mayWalk o_oftenAll o_oftenRoad o_oftenPegs), (b 4, .inl (cB, 900, .inl o_f4))] := hD
                            refine lv_goto (tgt := 144) hx hb dX10_advance_203 (by decide) ?_
                            exact ih375 v422 v423 (by omega) (by omega) (by omega) (by omega) (by omega) _ _ hP hD hS ls (lv_sub hl [0, 1] rfl)
                        · skip
                          refine lv_if_eq (tgt := 206) hx hb dX10_advance_162 (by decide) (fun c424 => ?_) (fun c424 => absurd (by decide) c424)
                          refine lv_aload_n hx hb dX10_advance_206 rfl (lv_at hl 1 rfl) ?_
                          refine lv_iconst (v := 2) hx hb dX10_advance_207 (by decide) ?_
                          refine va_put (D := G) (ci := 10) (v := .int 2) (ty := .int) (C := RX10) (T := TX10) (N := 46) hx hb hts iG_X10 tyX10 tyX10_ok nmX10 hown hK hP hD hS 0 rfl rfl 10 (by decide) (hts _ w_1202) (fun _ h9 => h9) rfl (by decide +kernel) rfl rfl (Nat.le_of_ble_eq_true rfl) dX10_advance_208 (fun H locs hP hD hS => ?_)
                          have hP : va_P G vwCl [(h0, oX10 b o_thrown o_taped o_size z372 z3 2 z371 o_faultKind o_faultPlace o_lawNow o_walkSet o_oneWidow o_oneTurn o_askWorst o_mayWalk o_oftenAll o_oftenRoad o_oftenPegs), (b 4, .inl (cB, 900, .inl o_f4))] H := hP
                          have hD : va_D A [(h0, oX10 b o_thrown o_taped o_size z372 z3 2 z371 o_faultKind o_faultPlace o_lawNow o_walkSet o_oneWidow o_oneTurn o_askWorst o_mayWalk o_oftenAll o_oftenRoad o_oftenPegs), (b 4, .inl (cB, 900, .inl o_f4))] := hD
                          refine lv_goto (tgt := 239) hx hb dX10_advance_211 (by decide) ?_
                          exact hret _ _ _ _ (z372, z3, 2, z371) hP hD hS dX10_advance_239 (show 0 ≤ z372.toInt ∧ z372.toInt ≤ 900 ∧ 0 ≤ z3.toInt ∧ z3.toInt ≤ 900 ∧ o_at.toInt ≤ z3.toInt ∧ z3.toInt ≤ z372.toInt ∧ ((2 : Int32).toInt = 0 ∨ z3.toInt < z372.toInt) from ⟨k373, (by omega), k4, (by omega), (by omega), (by omega), (Or.inr (by omega))⟩)
                  exact lp369 901 0 z3 k4 (by omega) (by omega) (by omega) (by have q9 := fb_rng z3; omega) _ _ hP hD hS ls (lv_sub hl [0, 1] rfl)
                · skip
                  refine lv_if_eq (tgt := 214) hx hb dX10_advance_136 (by decide) (fun c425 => ?_) (fun c425 => absurd (by decide) c425)
                  refine lv_aload_n hx hb dX10_advance_214 rfl (lv_at hl 1 rfl) ?_
                  refine lv_iload_n hx hb dX10_advance_215 rfl (lv_at hl 0 rfl) ?_
                  refine lv_bipush (v := 59) hx hb dX10_advance_216 (by decide) ?_
                  refine lv_icmp_ne (tgt := 225) hx hb dX10_advance_218 (by decide) (fun c426 => ?_) (fun c426 => ?_)
                  · have c426 := i_ne rfl ki_59 c426
                    refine lv_iconst (v := 4) hx hb dX10_advance_225 (by decide) ?_
                    refine va_put (D := G) (ci := 10) (v := .int 4) (ty := .int) (C := RX10) (T := TX10) (N := 46) hx hb hts iG_X10 tyX10 tyX10_ok nmX10 hown hK hP hD hS 0 rfl rfl 10 (by decide) (hts _ w_1202) (fun _ h9 => h9) rfl (by decide +kernel) rfl rfl (Nat.le_of_ble_eq_true rfl) dX10_advance_226 (fun H locs hP hD hS => ?_)
                    have hP : va_P G vwCl [(h0, oX10 b o_thrown o_taped o_size z3 z3 4 o_value o_faultKind o_faultPlace o_lawNow o_walkSet o_oneWidow o_oneTurn o_askWorst o_mayWalk o_oftenAll o_oftenRoad o_oftenPegs), (b 4, .inl (cB, 900, .inl o_f4))] H := hP
                    have hD : va_D A [(h0, oX10 b o_thrown o_taped o_size z3 z3 4 o_value o_faultKind o_faultPlace o_lawNow o_walkSet o_oneWidow o_oneTurn o_askWorst o_mayWalk o_oftenAll o_oftenRoad o_oftenPegs), (b 4, .inl (cB, 900, .inl o_f4))] := hD
                    refine lv_aload_n hx hb dX10_advance_229 rfl (lv_at hl 1 rfl) ?_
                    refine lv_dup hx hb dX10_advance_230 rfl ?_
                    refine va_get (D := G) (ci := 10) (v := .int z3) (C := RX10) (T := TX10) (N := 46) hx hb hts iG_X10 hown hK hP 0 rfl rfl 8 (by decide) (hts _ w_1200) (fun _ h9 => h9) rfl dX10_advance_231 ?_
                    refine lv_iconst (v := 1) hx hb dX10_advance_234 (by decide) ?_
                    refine lv_iadd hx hb dX10_advance_235 ?_
                    refine lv_topi (fun v427 ev427 => ?_)
                    have tv427 : v427.toInt = z3.toInt + 1 := ti_add rfl ki_1 ev427 (by omega) (by omega)
                    refine va_put (D := G) (ci := 10) (v := .int v427) (ty := .int) (C := RX10) (T := TX10) (N := 46) hx hb hts iG_X10 tyX10 tyX10_ok nmX10 hown hK hP hD hS 0 rfl rfl 8 (by decide) (hts _ w_1200) (fun _ h9 => h9) rfl (by decide +kernel) rfl rfl (Nat.le_of_ble_eq_true rfl) dX10_advance_236 (fun H locs hP hD hS => ?_)
                    have hP : va_P G vwCl [(h0, oX10 b o_thrown o_taped o_size v427 z3 4 o_value o_faultKind o_faultPlace o_lawNow o_walkSet o_oneWidow o_oneTurn o_askWorst o_mayWalk o_oftenAll o_oftenRoad o_oftenPegs), (b 4, .inl (cB, 900, .inl o_f4))] H := hP
                    have hD : va_D A [(h0, oX10 b o_thrown o_taped o_size v427 z3 4 o_value o_faultKind o_faultPlace o_lawNow o_walkSet o_oneWidow o_oneTurn o_askWorst o_mayWalk o_oftenAll o_oftenRoad o_oftenPegs), (b 4, .inl (cB, 900, .inl o_f4))] := hD
                    exact hret _ _ _ _ (v427, z3, 4, o_value) hP hD hS dX10_advance_239 (show 0 ≤ v427.toInt ∧ v427.toInt ≤ 900 ∧ 0 ≤ z3.toInt ∧ z3.toInt ≤ 900 ∧ o_at.toInt ≤ z3.toInt ∧ z3.toInt ≤ v427.toInt ∧ ((4 : Int32).toInt = 0 ∨ z3.toInt < v427.toInt) from ⟨(by omega), (by omega), k4, (by omega), (by omega), (by omega), (Or.inr (by omega))⟩)
                  · have c426 := i_eq rfl ki_59 c426
                    refine lv_iconst (v := 3) hx hb dX10_advance_221 (by decide) ?_
                    refine lv_goto (tgt := 226) hx hb dX10_advance_222 (by decide) ?_
                    refine va_put (D := G) (ci := 10) (v := .int 3) (ty := .int) (C := RX10) (T := TX10) (N := 46) hx hb hts iG_X10 tyX10 tyX10_ok nmX10 hown hK hP hD hS 0 rfl rfl 10 (by decide) (hts _ w_1202) (fun _ h9 => h9) rfl (by decide +kernel) rfl rfl (Nat.le_of_ble_eq_true rfl) dX10_advance_226 (fun H locs hP hD hS => ?_)
                    have hP : va_P G vwCl [(h0, oX10 b o_thrown o_taped o_size z3 z3 3 o_value o_faultKind o_faultPlace o_lawNow o_walkSet o_oneWidow o_oneTurn o_askWorst o_mayWalk o_oftenAll o_oftenRoad o_oftenPegs), (b 4, .inl (cB, 900, .inl o_f4))] H := hP
                    have hD : va_D A [(h0, oX10 b o_thrown o_taped o_size z3 z3 3 o_value o_faultKind o_faultPlace o_lawNow o_walkSet o_oneWidow o_oneTurn o_askWorst o_mayWalk o_oftenAll o_oftenRoad o_oftenPegs), (b 4, .inl (cB, 900, .inl o_f4))] := hD
                    refine lv_aload_n hx hb dX10_advance_229 rfl (lv_at hl 1 rfl) ?_
                    refine lv_dup hx hb dX10_advance_230 rfl ?_
                    refine va_get (D := G) (ci := 10) (v := .int z3) (C := RX10) (T := TX10) (N := 46) hx hb hts iG_X10 hown hK hP 0 rfl rfl 8 (by decide) (hts _ w_1200) (fun _ h9 => h9) rfl dX10_advance_231 ?_
                    refine lv_iconst (v := 1) hx hb dX10_advance_234 (by decide) ?_
                    refine lv_iadd hx hb dX10_advance_235 ?_
                    refine lv_topi (fun v428 ev428 => ?_)
                    have tv428 : v428.toInt = z3.toInt + 1 := ti_add rfl ki_1 ev428 (by omega) (by omega)
                    refine va_put (D := G) (ci := 10) (v := .int v428) (ty := .int) (C := RX10) (T := TX10) (N := 46) hx hb hts iG_X10 tyX10 tyX10_ok nmX10 hown hK hP hD hS 0 rfl rfl 8 (by decide) (hts _ w_1200) (fun _ h9 => h9) rfl (by decide +kernel) rfl rfl (Nat.le_of_ble_eq_true rfl) dX10_advance_236 (fun H locs hP hD hS => ?_)
                    have hP : va_P G vwCl [(h0, oX10 b o_thrown o_taped o_size v428 z3 3 o_value o_faultKind o_faultPlace o_lawNow o_walkSet o_oneWidow o_oneTurn o_askWorst o_mayWalk o_oftenAll o_oftenRoad o_oftenPegs), (b 4, .inl (cB, 900, .inl o_f4))] H := hP
                    have hD : va_D A [(h0, oX10 b o_thrown o_taped o_size v428 z3 3 o_value o_faultKind o_faultPlace o_lawNow o_walkSet o_oneWidow o_oneTurn o_askWorst o_mayWalk o_oftenAll o_oftenRoad o_oftenPegs), (b 4, .inl (cB, 900, .inl o_f4))] := hD
                    exact hret _ _ _ _ (v428, z3, 3, o_value) hP hD hS dX10_advance_239 (show 0 ≤ v428.toInt ∧ v428.toInt ≤ 900 ∧ 0 ≤ z3.toInt ∧ z3.toInt ≤ 900 ∧ o_at.toInt ≤ z3.toInt ∧ z3.toInt ≤ v428.toInt ∧ ((3 : Int32).toInt = 0 ∨ z3.toInt < v428.toInt) from ⟨(by omega), (by omega), k4, (by omega), (by omega), (by omega), (Or.inr (by omega))⟩)
          · skip
            refine lv_bipush (v := 10) hx hb dX10_advance_21 (by decide) ?_
            refine lv_icmp_ne (tgt := 39) hx hb dX10_advance_23 (by decide) (fun c429 => ?_) (fun c429 => ?_)
            · have c429 := i_ne rfl ki_10 c429
              refine lv_aload_n hx hb dX10_advance_39 rfl (lv_at hl 0 rfl) ?_
              refine lv_aload_n hx hb dX10_advance_40 rfl (lv_at hl 0 rfl) ?_
              refine va_get (D := G) (ci := 10) (v := .int z3) (C := RX10) (T := TX10) (N := 46) hx hb hts iG_X10 hown hK hP 0 rfl rfl 8 (by decide) (hts _ w_1200) (fun _ h9 => h9) rfl dX10_advance_41 ?_
              refine va_put (D := G) (ci := 10) (v := .int z3) (ty := .int) (C := RX10) (T := TX10) (N := 46) hx hb hts iG_X10 tyX10 tyX10_ok nmX10 hown hK hP hD hS 0 rfl rfl 9 (by decide) (hts _ w_1201) (fun _ h9 => h9) rfl (by decide +kernel) rfl rfl (Nat.le_of_ble_eq_true rfl) dX10_advance_44 (fun H locs hP hD hS => ?_)
              have hP : va_P G vwCl [(h0, oX10 b o_thrown o_taped o_size z3 z3 o_token o_value o_faultKind o_faultPlace o_lawNow o_walkSet o_oneWidow o_oneTurn o_askWorst o_mayWalk o_oftenAll o_oftenRoad o_oftenPegs), (b 4, .inl (cB, 900, .inl o_f4))] H := hP
              have hD : va_D A [(h0, oX10 b o_thrown o_taped o_size z3 z3 o_token o_value o_faultKind o_faultPlace o_lawNow o_walkSet o_oneWidow o_oneTurn o_askWorst o_mayWalk o_oftenAll o_oftenRoad o_oftenPegs), (b 4, .inl (cB, 900, .inl o_f4))] := hD
              refine lv_aload_n hx hb dX10_advance_47 rfl (lv_at hl 0 rfl) ?_
              refine lv_aload_n hx hb dX10_advance_48 rfl (lv_at hl 0 rfl) ?_
              refine va_get (D := G) (ci := 10) (v := .int z3) (C := RX10) (T := TX10) (N := 46) hx hb hts iG_X10 hown hK hP 0 rfl rfl 8 (by decide) (hts _ w_1200) (fun _ h9 => h9) rfl dX10_advance_49 ?_
              refine k_i (wc := [(h0, oX10 b o_thrown o_taped o_size z3 z3 o_token o_value o_faultKind o_faultPlace o_lawNow o_walkSet o_oneWidow o_oneTurn o_askWorst o_mayWalk o_oftenAll o_oftenRoad o_oftenPegs), (b 4, .inl (cB, 900, .inl o_f4))]) (wr := []) hP hD hS hA [0, 1] [] rfl rfl rfl (by decide) (va_runV (As := [.int z3]) (rest := []) ⟨hx, hb, hml, hown, hts⟩ (f_X10_see l G cI cJ cZ cB cQ _ h0 z3 z3.toInt b o_thrown o_taped o_size z3 z3 o_token o_value o_faultKind o_faultPlace o_lawNow o_walkSet o_oneWidow o_oneTurn o_askWorst o_mayWalk o_oftenAll o_oftenRoad o_oftenPegs o_f4 rfl (by omega) hl_o_taped hh_o_taped hl_o_size hh_o_size k4 (by omega) k4 (by omega) hl_o_oneTurn hh_o_oneTurn) (cwV 1 hts (gV w_1363 w_1365 wp_84 w_11 w_1366) rfl rfl rfl ⟨rfl, hd_X10_see⟩ ⟨Nat.le_of_ble_eq_true rfl, Nat.le_of_ble_eq_true rfl⟩) (mV hK hZ hP hD [0, 1] rfl rfl [.int z3] 0 10 rfl rfl) rfl rfl hl.1 rfl (lv_room (Nat.le_of_ble_eq_true rfl)) dX10_advance_52 ⟨Nat.le_of_ble_eq_true rfl, Nat.le_of_ble_eq_true rfl⟩) (fun r430 u431 H locs hw432 hP hD hS => ?_)
              try dsimp only at hw432
              have hP : va_P G vwCl [(h0, oX10 b o_thrown o_taped o_size z3 z3 o_token o_value o_faultKind o_faultPlace o_lawNow o_walkSet o_oneWidow o_oneTurn o_askWorst o_mayWalk o_oftenAll o_oftenRoad o_oftenPegs), (b 4, .inl (cB, 900, .inl o_f4))] H := hP
              have hD : va_D A [(h0, oX10 b o_thrown o_taped o_size z3 z3 o_token o_value o_faultKind o_faultPlace o_lawNow o_walkSet o_oneWidow o_oneTurn o_askWorst o_mayWalk o_oftenAll o_oftenRoad o_oftenPegs), (b 4, .inl (cB, 900, .inl o_f4))] := hD
              rcases hw432 with ⟨rfl, s434, s435⟩ | ⟨s436, s437, s438, s439⟩
              · skip
                refine lv_istore_n (lv' := [(1, .int (-1)), (0, .ref h0)]) hx hb dX10_advance_55 rfl hl (by decide) rfl (fun ls hl => ?_)
                refine lv_iload_n hx hb dX10_advance_56 rfl (lv_at hl 0 rfl) ?_
                refine lv_iconst (v := (-1)) hx hb dX10_advance_57 (by decide) ?_
                refine lv_icmp_ne (tgt := 69) hx hb dX10_advance_58 (by decide) (fun c440 => absurd (by decide) c440) (fun c440 => ?_)
                refine lv_aload_n hx hb dX10_advance_61 rfl (lv_at hl 1 rfl) ?_
                refine lv_iconst (v := 0) hx hb dX10_advance_62 (by decide) ?_
                refine va_put (D := G) (ci := 10) (v := .int 0) (ty := .int) (C := RX10) (T := TX10) (N := 46) hx hb hts iG_X10 tyX10 tyX10_ok nmX10 hown hK hP hD hS 0 rfl rfl 10 (by decide) (hts _ w_1202) (fun _ h9 => h9) rfl (by decide +kernel) rfl rfl (Nat.le_of_ble_eq_true rfl) dX10_advance_63 (fun H locs hP hD hS => ?_)
                have hP : va_P G vwCl [(h0, oX10 b o_thrown o_taped o_size z3 z3 0 o_value o_faultKind o_faultPlace o_lawNow o_walkSet o_oneWidow o_oneTurn o_askWorst o_mayWalk o_oftenAll o_oftenRoad o_oftenPegs), (b 4, .inl (cB, 900, .inl o_f4))] H := hP
                have hD : va_D A [(h0, oX10 b o_thrown o_taped o_size z3 z3 0 o_value o_faultKind o_faultPlace o_lawNow o_walkSet o_oneWidow o_oneTurn o_askWorst o_mayWalk o_oftenAll o_oftenRoad o_oftenPegs), (b 4, .inl (cB, 900, .inl o_f4))] := hD
                refine lv_goto (tgt := 239) hx hb dX10_advance_66 (by decide) ?_
                exact hret _ _ _ _ (z3, z3, 0, o_value) hP hD hS dX10_advance_239 (show 0 ≤ z3.toInt ∧ z3.toInt ≤ 900 ∧ 0 ≤ z3.toInt ∧ z3.toInt ≤ 900 ∧ o_at.toInt ≤ z3.toInt ∧ z3.toInt ≤ z3.toInt ∧ ((0 : Int32).toInt = 0 ∨ z3.toInt < z3.toInt) from ⟨k4, (by omega), k4, (by omega), (by omega), (by omega), (Or.inl ki_0)⟩)
              · skip
                refine lv_istore_n (lv' := [(1, .int r430), (0, .ref h0)]) hx hb dX10_advance_55 rfl hl (by decide) rfl (fun ls hl => ?_)
                refine lv_iload_n hx hb dX10_advance_56 rfl (lv_at hl 0 rfl) ?_
                refine lv_iconst (v := (-1)) hx hb dX10_advance_57 (by decide) ?_
                refine lv_icmp_ne (tgt := 69) hx hb dX10_advance_58 (by decide) (fun c441 => ?_) (fun c441 => absurd (i_eq rfl ki_m1 c441) (by omega))
                have c441 := i_ne rfl ki_m1 c441
                refine lv_iload_n hx hb dX10_advance_69 rfl (lv_at hl 0 rfl) ?_
                obtain ⟨v442, ev442⟩ : ∃ y : Int64, r430.toInt64 = y := ⟨_, rfl⟩
                have tv442 : v442.toInt = r430.toInt := ti_wide rfl ev442
                refine lv_i2l (v := v442) hx hb dX10_advance_70 ev442 ?_
                refine lv_ldc2 (v := 97) hx hb hown (hts _ w_1367) dX10_advance_71 ?_
                refine lv_ldc2 (v := 122) hx hb hown (hts _ w_1368) dX10_advance_74 ?_
                refine k_i (wc := []) (wr := [(h0, oX10 b o_thrown o_taped o_size z3 z3 o_token o_value o_faultKind o_faultPlace o_lawNow o_walkSet o_oneWidow o_oneTurn o_askWorst o_mayWalk o_oftenAll o_oftenRoad o_oftenPegs), (b 4, .inl (cB, 900, .inl o_f4))]) hP hD hS hA [] [0, 1] rfl rfl rfl (by decide) (va_runS (As := [.long v442, .long 97, .long 122]) (rest := []) ⟨hx, hb, hml, hown, hts⟩ (f_X10_in l G cI cJ cZ cB cQ _ v442 r430.toInt 97 97 122 122 tv442 kl_97 kl_122) (va_cwS 3 hts (gS w_1336 w_1337 w_11 w_1338) rfl rfl rfl hd_X10_in ⟨Nat.le_of_ble_eq_true rfl, Nat.le_of_ble_eq_true rfl⟩) (mS hK hZ hP hD [] rfl rfl [.long v442, .long 97, .long 122]) rfl rfl hl.1 rfl (lv_room (Nat.le_of_ble_eq_true rfl)) dX10_advance_77 ⟨Nat.le_of_ble_eq_true rfl, Nat.le_of_ble_eq_true rfl⟩) (fun r443 u444 H locs hw445 hP hD hS => ?_)
                try dsimp only at hw445
                have hP : va_P G vwCl [(h0, oX10 b o_thrown o_taped o_size z3 z3 o_token o_value o_faultKind o_faultPlace o_lawNow o_walkSet o_oneWidow o_oneTurn o_askWorst o_mayWalk o_oftenAll o_oftenRoad o_oftenPegs), (b 4, .inl (cB, 900, .inl o_f4))] H := hP
                have hD : va_D A [(h0, oX10 b o_thrown o_taped o_size z3 z3 o_token o_value o_faultKind o_faultPlace o_lawNow o_walkSet o_oneWidow o_oneTurn o_askWorst o_mayWalk o_oftenAll o_oftenRoad o_oftenPegs), (b 4, .inl (cB, 900, .inl o_f4))] := hD
                rcases hw445 with ⟨rfl, a447, a448⟩ | ⟨rfl, a449⟩
                · skip
                  refine lv_if_eq (tgt := 125) hx hb dX10_advance_80 (by decide) (fun c450 => absurd c450 (by decide)) (fun c450 => ?_)
                  have lp451 : ∀ (n452 : Nat) (z453 : Int32), 0 ≤ z453.toInt → z453.toInt ≤ 900 → z3.toInt ≤ z453.toInt → z3.toInt < z453.toInt ∨ (97 ≤ seeI o_size.toInt o_f4 z453.toInt ∧ seeI o_size.toInt o_f4 z453.toInt ≤ 122) → 900 - z453.toInt < (n452 : Int) → ∀ (H : Heap) (locs : List Loc), va_P G vwCl [(h0, oX10 b o_thrown o_taped o_size z453 z3 o_token o_value o_faultKind o_faultPlace o_lawNow o_walkSet o_oneWidow o_oneTurn o_askWorst o_mayWalk o_oftenAll o_oftenRoad o_oftenPegs), (b 4, .inl (cB, 900, .inl o_f4))] H → va_D A [(h0, oX10 b o_thrown o_taped o_size z453 z3 o_token o_value o_faultKind o_faultPlace o_lawNow o_walkSet o_oneWidow o_oneTurn o_askWorst o_mayWalk o_oftenAll o_oftenRoad o_oftenPegs), (b 4, .inl (cB, 900, .inl o_f4))] → va_S A s.heap H locs → ∀ (ls : Array Slot), lv_has ls 2 [(1, .int r430), (0, .ref h0)] → W p l e ({ frames := 1, cells := 0, slots := 0, locals := 25 } : Room) s m ([.ref h0] : List Value).toArray below meth c H locs 0 0 Q (F0 m 83 ls []) := by
                    intro n452
                    induction n452 with
                    | zero =>
                      intro z453 k454 k455 ax455 ay455 mm457
                      exact absurd mm457 (by have q9 := fb_rng z453; omega)
                    | succ n452 ih456 =>
                      intro z453 k454 k455 ax455 ay455 mm457 H locs hP hD hS ls hl
                      refine lv_aload_n hx hb dX10_advance_83 rfl (lv_at hl 1 rfl) ?_
                      refine lv_aload_n hx hb dX10_advance_84 rfl (lv_at hl 1 rfl) ?_
                      refine va_get (D := G) (ci := 10) (v := .int z453) (C := RX10) (T := TX10) (N := 46) hx hb hts iG_X10 hown hK hP 0 rfl rfl 8 (by decide) (hts _ w_1200) (fun _ h9 => h9) rfl dX10_advance_85 ?_
                      refine k_i (wc := [(h0, oX10 b o_thrown o_taped o_size z453 z3 o_token o_value o_faultKind o_faultPlace o_lawNow o_walkSet o_oneWidow o_oneTurn o_askWorst o_mayWalk o_oftenAll o_oftenRoad o_oftenPegs), (b 4, .inl (cB, 900, .inl o_f4))]) (wr := []) hP hD hS hA [0, 1] [] rfl rfl rfl (by decide) (va_runV (As := [.int z453]) (rest := []) ⟨hx, hb, hml, hown, hts⟩ (f_X10_see l G cI cJ cZ cB cQ _ h0 z453 z453.toInt b o_thrown o_taped o_size z453 z3 o_token o_value o_faultKind o_faultPlace o_lawNow o_walkSet o_oneWidow o_oneTurn o_askWorst o_mayWalk o_oftenAll o_oftenRoad o_oftenPegs o_f4 rfl (by omega) hl_o_taped hh_o_taped hl_o_size hh_o_size k454 k455 k4 (by omega) hl_o_oneTurn hh_o_oneTurn) (cwV 1 hts (gV w_1363 w_1365 wp_84 w_11 w_1366) rfl rfl rfl ⟨rfl, hd_X10_see⟩ ⟨Nat.le_of_ble_eq_true rfl, Nat.le_of_ble_eq_true rfl⟩) (mV hK hZ hP hD [0, 1] rfl rfl [.int z453] 0 10 rfl rfl) rfl rfl hl.1 rfl (lv_room (Nat.le_of_ble_eq_true rfl)) dX10_advance_88 ⟨Nat.le_of_ble_eq_true rfl, Nat.le_of_ble_eq_true rfl⟩) (fun r458 u459 H locs hw460 hP hD hS => ?_)
                      try dsimp only at hw460
                      have hP : va_P G vwCl [(h0, oX10 b o_thrown o_taped o_size z453 z3 o_token o_value o_faultKind o_faultPlace o_lawNow o_walkSet o_oneWidow o_oneTurn o_askWorst o_mayWalk o_oftenAll o_oftenRoad o_oftenPegs), (b 4, .inl (cB, 900, .inl o_f4))] H := hP
                      have hD : va_D A [(h0, oX10 b o_thrown o_taped o_size z453 z3 o_token o_value o_faultKind o_faultPlace o_lawNow o_walkSet o_oneWidow o_oneTurn o_askWorst o_mayWalk o_oftenAll o_oftenRoad o_oftenPegs), (b 4, .inl (cB, 900, .inl o_f4))] := hD
                      rcases hw460 with ⟨rfl, s462, s463⟩ | ⟨s464, s465, s466, s467⟩
                      · skip
                        refine lv_i2l (v := (-1)) hx hb dX10_advance_91 (by decide) ?_
                        refine lv_ldc2 (v := 97) hx hb hown (hts _ w_1367) dX10_advance_92 ?_
                        refine lv_ldc2 (v := 122) hx hb hown (hts _ w_1368) dX10_advance_95 ?_
                        refine k_i (wc := []) (wr := [(h0, oX10 b o_thrown o_taped o_size z453 z3 o_token o_value o_faultKind o_faultPlace o_lawNow o_walkSet o_oneWidow o_oneTurn o_askWorst o_mayWalk o_oftenAll o_oftenRoad o_oftenPegs), (b 4, .inl (cB, 900, .inl o_f4))]) hP hD hS hA [] [0, 1] rfl rfl rfl (by decide) (va_runS (As := [.long (-1), .long 97, .long 122]) (rest := []) ⟨hx, hb, hml, hown, hts⟩ (f_X10_in l G cI cJ cZ cB cQ _ (-1) (-1) 97 97 122 122 kl_m1 kl_97 kl_122) (va_cwS 3 hts (gS w_1336 w_1337 w_11 w_1338) rfl rfl rfl hd_X10_in ⟨Nat.le_of_ble_eq_true rfl, Nat.le_of_ble_eq_true rfl⟩) (mS hK hZ hP hD [] rfl rfl [.long (-1), .long 97, .long 122]) rfl rfl hl.1 rfl (lv_room (Nat.le_of_ble_eq_true rfl)) dX10_advance_98 ⟨Nat.le_of_ble_eq_true rfl, Nat.le_of_ble_eq_true rfl⟩) (fun r469 u470 H locs hw471 hP hD hS => ?_)
                        try dsimp only at hw471
                        have hP : va_P G vwCl [(h0, oX10 b o_thrown o_taped o_size z453 z3 o_token o_value o_faultKind o_faultPlace o_lawNow o_walkSet o_oneWidow o_oneTurn o_askWorst o_mayWalk o_oftenAll o_oftenRoad o_oftenPegs), (b 4, .inl (cB, 900, .inl o_f4))] H := hP
                        have hD : va_D A [(h0, oX10 b o_thrown o_taped o_size z453 z3 o_token o_value o_faultKind o_faultPlace o_lawNow o_walkSet o_oneWidow o_oneTurn o_askWorst o_mayWalk o_oftenAll o_oftenRoad o_oftenPegs), (b 4, .inl (cB, 900, .inl o_f4))] := hD
                        rcases hw471 with ⟨rfl, a473, a474⟩ | ⟨rfl, a475⟩
                        · exact absurd (And.intro a473 a474) (by omega)
                        · skip
                          refine lv_if_eq (tgt := 117) hx hb dX10_advance_101 (by decide) (fun c476 => ?_) (fun c476 => absurd (by decide) c476)
                          refine lv_aload_n hx hb dX10_advance_117 rfl (lv_at hl 1 rfl) ?_
                          refine lv_iconst (v := 1) hx hb dX10_advance_118 (by decide) ?_
                          refine va_put (D := G) (ci := 10) (v := .int 1) (ty := .int) (C := RX10) (T := TX10) (N := 46) hx hb hts iG_X10 tyX10 tyX10_ok nmX10 hown hK hP hD hS 0 rfl rfl 10 (by decide) (hts _ w_1202) (fun _ h9 => h9) rfl (by decide +kernel) rfl rfl (Nat.le_of_ble_eq_true rfl) dX10_advance_119 (fun H locs hP hD hS => ?_)
                          have hP : va_P G vwCl [(h0, oX10 b o_thrown o_taped o_size z453 z3 1 o_value o_faultKind o_faultPlace o_lawNow o_walkSet o_oneWidow o_oneTurn o_askWorst o_mayWalk o_oftenAll o_oftenRoad o_oftenPegs), (b 4, .inl (cB, 900, .inl o_f4))] H := hP
                          have hD : va_D A [(h0, oX10 b o_thrown o_taped o_size z453 z3 1 o_value o_faultKind o_faultPlace o_lawNow o_walkSet o_oneWidow o_oneTurn o_askWorst o_mayWalk o_oftenAll o_oftenRoad o_oftenPegs), (b 4, .inl (cB, 900, .inl o_f4))] := hD
                          refine lv_goto (tgt := 239) hx hb dX10_advance_122 (by decide) ?_
                          exact hret _ _ _ _ (z453, z3, 1, o_value) hP hD hS dX10_advance_239 (show 0 ≤ z453.toInt ∧ z453.toInt ≤ 900 ∧ 0 ≤ z3.toInt ∧ z3.toInt ≤ 900 ∧ o_at.toInt ≤ z3.toInt ∧ z3.toInt ≤ z453.toInt ∧ ((1 : Int32).toInt = 0 ∨ z3.toInt < z453.toInt) from ⟨k454, k455, k4, (by omega), (by omega), (by omega), (Or.inr (by omega))⟩)
                      · skip
                        obtain ⟨v477, ev477⟩ : ∃ y : Int64, r458.toInt64 = y := ⟨_, rfl⟩
                        have tv477 : v477.toInt = r458.toInt := ti_wide rfl ev477
                        refine lv_i2l (v := v477) hx hb dX10_advance_91 ev477 ?_
                        refine lv_ldc2 (v := 97) hx hb hown (hts _ w_1367) dX10_advance_92 ?_
                        refine lv_ldc2 (v := 122) hx hb hown (hts _ w_1368) dX10_advance_95 ?_
                        refine k_i (wc := []) (wr := [(h0, oX10 b o_thrown o_taped o_size z453 z3 o_token o_value o_faultKind o_faultPlace o_lawNow o_walkSet o_oneWidow o_oneTurn o_askWorst o_mayWalk o_oftenAll o_oftenRoad o_oftenPegs), (b 4, .inl (cB, 900, .inl o_f4))]) hP hD hS hA [] [0, 1] rfl rfl rfl (by decide) (va_runS (As := [.long v477, .long 97, .long 122]) (rest := []) ⟨hx, hb, hml, hown, hts⟩ (f_X10_in l G cI cJ cZ cB cQ _ v477 r458.toInt 97 97 122 122 tv477 kl_97 kl_122) (va_cwS 3 hts (gS w_1336 w_1337 w_11 w_1338) rfl rfl rfl hd_X10_in ⟨Nat.le_of_ble_eq_true rfl, Nat.le_of_ble_eq_true rfl⟩) (mS hK hZ hP hD [] rfl rfl [.long v477, .long 97, .long 122]) rfl rfl hl.1 rfl (lv_room (Nat.le_of_ble_eq_true rfl)) dX10_advance_98 ⟨Nat.le_of_ble_eq_true rfl, Nat.le_of_ble_eq_true rfl⟩) (fun r478 u479 H locs hw480 hP hD hS => ?_)
                        try dsimp only at hw480
                        have hP : va_P G vwCl [(h0, oX10 b o_thrown o_taped o_size z453 z3 o_token o_value o_faultKind o_faultPlace o_lawNow o_walkSet o_oneWidow o_oneTurn o_askWorst o_mayWalk o_oftenAll o_oftenRoad o_oftenPegs), (b 4, .inl (cB, 900, .inl o_f4))] H := hP
                        have hD : va_D A [(h0, oX10 b o_thrown o_taped o_size z453 z3 o_token o_value o_faultKind o_faultPlace o_lawNow o_walkSet o_oneWidow o_oneTurn o_askWorst o_mayWalk o_oftenAll o_oftenRoad o_oftenPegs), (b 4, .inl (cB, 900, .inl o_f4))] := hD
                        rcases hw480 with ⟨rfl, a482, a483⟩ | ⟨rfl, a484⟩
                        · skip
                          refine lv_if_eq (tgt := 117) hx hb dX10_advance_101 (by decide) (fun c485 => absurd c485 (by decide)) (fun c485 => ?_)
                          refine lv_aload_n hx hb dX10_advance_104 rfl (lv_at hl 1 rfl) ?_
                          refine lv_dup hx hb dX10_advance_105 rfl ?_
                          refine va_get (D := G) (ci := 10) (v := .int z453) (C := RX10) (T := TX10) (N := 46) hx hb hts iG_X10 hown hK hP 0 rfl rfl 8 (by decide) (hts _ w_1200) (fun _ h9 => h9) rfl dX10_advance_106 ?_
                          refine lv_iconst (v := 1) hx hb dX10_advance_109 (by decide) ?_
                          refine lv_iadd hx hb dX10_advance_110 ?_
                          refine lv_topi (fun v486 ev486 => ?_)
                          have tv486 : v486.toInt = z453.toInt + 1 := ti_add rfl ki_1 ev486 (by omega) (by omega)
                          refine va_put (D := G) (ci := 10) (v := .int v486) (ty := .int) (C := RX10) (T := TX10) (N := 46) hx hb hts iG_X10 tyX10 tyX10_ok nmX10 hown hK hP hD hS 0 rfl rfl 8 (by decide) (hts _ w_1200) (fun _ h9 => h9) rfl (by decide +kernel) rfl rfl (Nat.le_of_ble_eq_true rfl) dX10_advance_111 (fun H locs hP hD hS => ?_)
                          have hP : va_P G vwCl [(h0, oX10 b o_thrown o_taped o_size v486 z3 o_token o_value o_faultKind o_faultPlace o_lawNow o_walkSet o_oneWidow o_oneTurn o_askWorst o_mayWalk o_oftenAll o_oftenRoad o_oftenPegs), (b 4, .inl (cB, 900, .inl o_f4))] H := hP
                          have hD : va_D A [(h0, oX10 b o_thrown o_taped o_size v486 z3 o_token o_value o_faultKind o_faultPlace o_lawNow o_walkSet o_oneWidow o_oneTurn o_askWorst o_mayWalk o_oftenAll o_oftenRoad o_oftenPegs), (b 4, .inl (cB, 900, .inl o_f4))] := hD
                          refine lv_goto (tgt := 83) hx hb dX10_advance_114 (by decide) ?_
                          exact ih456 v486 (by omega) (by omega) (by omega) (by omega) (by omega) _ _ hP hD hS ls (lv_sub hl [0, 1] rfl)
                        · skip
                          refine lv_if_eq (tgt := 117) hx hb dX10_advance_101 (by decide) (fun c487 => ?_) (fun c487 => absurd (by decide) c487)
                          refine lv_aload_n hx hb dX10_advance_117 rfl (lv_at hl 1 rfl) ?_
                          refine lv_iconst (v := 1) hx hb dX10_advance_118 (by decide) ?_
                          refine va_put (D := G) (ci := 10) (v := .int 1) (ty := .int) (C := RX10) (T := TX10) (N := 46) hx hb hts iG_X10 tyX10 tyX10_ok nmX10 hown hK hP hD hS 0 rfl rfl 10 (by decide) (hts _ w_1202) (fun _ h9 => h9) rfl (by decide +kernel) rfl rfl (Nat.le_of_ble_eq_true rfl) dX10_advance_119 (fun H locs hP hD hS => ?_)
                          have hP : va_P G vwCl [(h0, oX10 b o_thrown o_taped o_size z453 z3 1 o_value o_faultKind o_faultPlace o_lawNow o_walkSet o_oneWidow o_oneTurn o_askWorst o_mayWalk o_oftenAll o_oftenRoad o_oftenPegs), (b 4, .inl (cB, 900, .inl o_f4))] H := hP
                          have hD : va_D A [(h0, oX10 b o_thrown o_taped o_size z453 z3 1 o_value o_faultKind o_faultPlace o_lawNow o_walkSet o_oneWidow o_oneTurn o_askWorst o_mayWalk o_oftenAll o_oftenRoad o_oftenPegs), (b 4, .inl (cB, 900, .inl o_f4))] := hD
                          refine lv_goto (tgt := 239) hx hb dX10_advance_122 (by decide) ?_
                          exact hret _ _ _ _ (z453, z3, 1, o_value) hP hD hS dX10_advance_239 (show 0 ≤ z453.toInt ∧ z453.toInt ≤ 900 ∧ 0 ≤ z3.toInt ∧ z3.toInt ≤ 900 ∧ o_at.toInt ≤ z3.toInt ∧ z3.toInt ≤ z453.toInt ∧ ((1 : Int32).toInt = 0 ∨ z3.toInt < z453.toInt) from ⟨k454, (by omega), k4, (by omega), (by omega), (by omega), (Or.inr (by omega))⟩)
                  exact lp451 901 z3 k4 (by omega) (by omega) (by omega) (by have q9 := fb_rng z3; omega) _ _ hP hD hS ls (lv_sub hl [0, 1] rfl)
                · skip
                  refine lv_if_eq (tgt := 125) hx hb dX10_advance_80 (by decide) (fun c488 => ?_) (fun c488 => absurd (by decide) c488)
                  refine lv_iload_n hx hb dX10_advance_125 rfl (lv_at hl 0 rfl) ?_
                  obtain ⟨v489, ev489⟩ : ∃ y : Int64, r430.toInt64 = y := ⟨_, rfl⟩
                  have tv489 : v489.toInt = r430.toInt := ti_wide rfl ev489
                  refine lv_i2l (v := v489) hx hb dX10_advance_126 ev489 ?_
                  refine lv_ldc2 (v := 48) hx hb hown (hts _ w_1369) dX10_advance_127 ?_
                  refine lv_ldc2 (v := 57) hx hb hown (hts _ w_1370) dX10_advance_130 ?_
                  refine k_i (wc := []) (wr := [(h0, oX10 b o_thrown o_taped o_size z3 z3 o_token o_value o_faultKind o_faultPlace o_lawNow o_walkSet o_oneWidow o_oneTurn o_askWorst o_mayWalk o_oftenAll o_oftenRoad o_oftenPegs), (b 4, .inl (cB, 900, .inl o_f4))]) hP hD hS hA [] [0, 1] rfl rfl rfl (by decide) (va_runS (As := [.long v489, .long 48, .long 57]) (rest := []) ⟨hx, hb, hml, hown, hts⟩ (f_X10_in l G cI cJ cZ cB cQ _ v489 r430.toInt 48 48 57 57 tv489 kl_48 kl_57) (va_cwS 3 hts (gS w_1336 w_1337 w_11 w_1338) rfl rfl rfl hd_X10_in ⟨Nat.le_of_ble_eq_true rfl, Nat.le_of_ble_eq_true rfl⟩) (mS hK hZ hP hD [] rfl rfl [.long v489, .long 48, .long 57]) rfl rfl hl.1 rfl (lv_room (Nat.le_of_ble_eq_true rfl)) dX10_advance_133 ⟨Nat.le_of_ble_eq_true rfl, Nat.le_of_ble_eq_true rfl⟩) (fun r490 u491 H locs hw492 hP hD hS => ?_)
                  try dsimp only at hw492
                  have hP : va_P G vwCl [(h0, oX10 b o_thrown o_taped o_size z3 z3 o_token o_value o_faultKind o_faultPlace o_lawNow o_walkSet o_oneWidow o_oneTurn o_askWorst o_mayWalk o_oftenAll o_oftenRoad o_oftenPegs), (b 4, .inl (cB, 900, .inl o_f4))] H := hP
                  have hD : va_D A [(h0, oX10 b o_thrown o_taped o_size z3 z3 o_token o_value o_faultKind o_faultPlace o_lawNow o_walkSet o_oneWidow o_oneTurn o_askWorst o_mayWalk o_oftenAll o_oftenRoad o_oftenPegs), (b 4, .inl (cB, 900, .inl o_f4))] := hD
                  rcases hw492 with ⟨rfl, a494, a495⟩ | ⟨rfl, a496⟩
                  · skip
                    refine lv_if_eq (tgt := 214) hx hb dX10_advance_136 (by decide) (fun c497 => absurd c497 (by decide)) (fun c497 => ?_)
                    refine lv_aload_n hx hb dX10_advance_139 rfl (lv_at hl 1 rfl) ?_
                    refine lv_iconst (v := 0) hx hb dX10_advance_140 (by decide) ?_
                    refine va_put (D := G) (ci := 10) (v := .int 0) (ty := .int) (C := RX10) (T := TX10) (N := 46) hx hb hts iG_X10 tyX10 tyX10_ok nmX10 hown hK hP hD hS 0 rfl rfl 11 (by decide) (hts _ w_1203) (fun _ h9 => h9) rfl (by decide +kernel) rfl rfl (Nat.le_of_ble_eq_true rfl) dX10_advance_141 (fun H locs hP hD hS => ?_)
                    have hP : va_P G vwCl [(h0, oX10 b o_thrown o_taped o_size z3 z3 o_token 0 o_faultKind o_faultPlace o_lawNow o_walkSet o_oneWidow o_oneTurn o_askWorst o_mayWalk o_oftenAll o_oftenRoad o_oftenPegs), (b 4, .inl (cB, 900, .inl o_f4))] H := hP
                    have hD : va_D A [(h0, oX10 b o_thrown o_taped o_size z3 z3 o_token 0 o_faultKind o_faultPlace o_lawNow o_walkSet o_oneWidow o_oneTurn o_askWorst o_mayWalk o_oftenAll o_oftenRoad o_oftenPegs), (b 4, .inl (cB, 900, .inl o_f4))] := hD
                    have lp498 : ∀ (n499 : Nat) (z500 : Int32) (z501 : Int32), 0 ≤ z501.toInt → z501.toInt ≤ 900 → z3.toInt ≤ z501.toInt → z3.toInt < z501.toInt ∨ (48 ≤ seeI o_size.toInt o_f4 z501.toInt ∧ seeI o_size.toInt o_f4 z501.toInt ≤ 57) → 900 - z501.toInt < (n499 : Int) → ∀ (H : Heap) (locs : List Loc), va_P G vwCl [(h0, oX10 b o_thrown o_taped o_size z501 z3 o_token z500 o_faultKind o_faultPlace o_lawNow o_walkSet o_oneWidow o_oneTurn o_askWorst o_mayWalk o_oftenAll o_oftenRoad o_oftenPegs), (b 4, .inl (cB, 900, .inl o_f4))] H → va_D A [(h0, oX10 b o_thrown o_taped o_size z501 z3 o_token z500 o_faultKind o_faultPlace o_lawNow o_walkSet o_oneWidow o_oneTurn o_askWorst o_mayWalk o_oftenAll o_oftenRoad o_oftenPegs), (b 4, .inl (cB, 900, .inl o_f4))] → va_S A s.heap H locs → ∀ (ls : Array Slot), lv_has ls 2 [(1, .int r430), (0, .ref h0)] → W p l e ({ frames := 1, cells := 0, slots := 0, locals := 25 } : Room) s m ([.ref h0] : List Value).toArray below meth c H locs 0 0 Q (F0 m 144 ls []) := by
                      intro n499
                      induction n499 with
                      | zero =>
                        intro z500 z501 k502 k503 ax503 ay503 mm505
                        exact absurd mm505 (by have q9 := fb_rng z501; omega)
                      | succ n499 ih504 =>
                        intro z500 z501 k502 k503 ax503 ay503 mm505 H locs hP hD hS ls hl
                        refine lv_aload_n hx hb dX10_advance_144 rfl (lv_at hl 1 rfl) ?_
                        refine lv_aload_n hx hb dX10_advance_145 rfl (lv_at hl 1 rfl) ?_
                        refine va_get (D := G) (ci := 10) (v := .int z501) (C := RX10) (T := TX10) (N := 46) hx hb hts iG_X10 hown hK hP 0 rfl rfl 8 (by decide) (hts _ w_1200) (fun _ h9 => h9) rfl dX10_advance_146 ?_
                        refine k_i (wc := [(h0, oX10 b o_thrown o_taped o_size z501 z3 o_token z500 o_faultKind o_faultPlace o_lawNow o_walkSet o_oneWidow o_oneTurn o_askWorst o_mayWalk o_oftenAll o_oftenRoad o_oftenPegs), (b 4, .inl (cB, 900, .inl o_f4))]) (wr := []) hP hD hS hA [0, 1] [] rfl rfl rfl (by decide) (va_runV (As := [.int z501]) (rest := []) ⟨hx, hb, hml, hown, hts⟩ (f_X10_see l G cI cJ cZ cB cQ _ h0 z501 z501.toInt b o_thrown o_taped o_size z501 z3 o_token z500 o_faultKind o_faultPlace o_lawNow o_walkSet o_oneWidow o_oneTurn o_askWorst o_mayWalk o_oftenAll o_oftenRoad o_oftenPegs o_f4 rfl (by omega) hl_o_taped hh_o_taped hl_o_size hh_o_size k502 k503 k4 (by omega) hl_o_oneTurn hh_o_oneTurn) (cwV 1 hts (gV w_1363 w_1365 wp_84 w_11 w_1366) rfl rfl rfl ⟨rfl, hd_X10_see⟩ ⟨Nat.le_of_ble_eq_true rfl, Nat.le_of_ble_eq_true rfl⟩) (mV hK hZ hP hD [0, 1] rfl rfl [.int z501] 0 10 rfl rfl) rfl rfl hl.1 rfl (lv_room (Nat.le_of_ble_eq_true rfl)) dX10_advance_149 ⟨Nat.le_of_ble_eq_true rfl, Nat.le_of_ble_eq_true rfl⟩) (fun r506 u507 H locs hw508 hP hD hS => ?_)
                        try dsimp only at hw508
                        have hP : va_P G vwCl [(h0, oX10 b o_thrown o_taped o_size z501 z3 o_token z500 o_faultKind o_faultPlace o_lawNow o_walkSet o_oneWidow o_oneTurn o_askWorst o_mayWalk o_oftenAll o_oftenRoad o_oftenPegs), (b 4, .inl (cB, 900, .inl o_f4))] H := hP
                        have hD : va_D A [(h0, oX10 b o_thrown o_taped o_size z501 z3 o_token z500 o_faultKind o_faultPlace o_lawNow o_walkSet o_oneWidow o_oneTurn o_askWorst o_mayWalk o_oftenAll o_oftenRoad o_oftenPegs), (b 4, .inl (cB, 900, .inl o_f4))] := hD
                        rcases hw508 with ⟨rfl, s510, s511⟩ | ⟨s512, s513, s514, s515⟩
                        · skip
                          refine lv_i2l (v := (-1)) hx hb dX10_advance_152 (by decide) ?_
                          refine lv_ldc2 (v := 48) hx hb hown (hts _ w_1369) dX10_advance_153 ?_
                          refine lv_ldc2 (v := 57) hx hb hown (hts _ w_1370) dX10_advance_156 ?_
                          refine k_i (wc := []) (wr := [(h0, oX10 b o_thrown o_taped o_size z501 z3 o_token z500 o_faultKind o_faultPlace o_lawNow o_walkSet o_oneWidow o_oneTurn o_askWorst o_mayWalk o_oftenAll o_oftenRoad o_oftenPegs), (b 4, .inl (cB, 900, .inl o_f4))]) hP hD hS hA [] [0, 1] rfl rfl rfl (by decide) (va_runS (As := [.long (-1), .long 48, .long 57]) (rest := []) ⟨hx, hb, hml, hown, hts⟩ (f_X10_in l G cI cJ cZ cB cQ _ (-1) (-1) 48 48 57 57 kl_m1 kl_48 kl_57) (va_cwS 3 hts (gS w_1336 w_1337 w_11 w_1338) rfl rfl rfl hd_X10_in ⟨Nat.le_of_ble_eq_true rfl, Nat.le_of_ble_eq_true rfl⟩) (mS hK hZ hP hD [] rfl rfl [.long (-1), .long 48, .long 57]) rfl rfl hl.1 rfl (lv_room (Nat.le_of_ble_eq_true rfl)) dX10_advance_159 ⟨Nat.le_of_ble_eq_true rfl, Nat.le_of_ble_eq_true rfl⟩) (fun r517 u518 H locs hw519 hP hD hS => ?_)
                          try dsimp only at hw519
                          have hP : va_P G vwCl [(h0, oX10 b o_thrown o_taped o_size z501 z3 o_token z500 o_faultKind o_faultPlace o_lawNow o_walkSet o_oneWidow o_oneTurn o_askWorst o_mayWalk o_oftenAll o_oftenRoad o_oftenPegs), (b 4, .inl (cB, 900, .inl o_f4))] H := hP
                          have hD : va_D A [(h0, oX10 b o_thrown o_taped o_size z501 z3 o_token z500 o_faultKind o_faultPlace o_lawNow o_walkSet o_oneWidow o_oneTurn o_askWorst o_mayWalk o_oftenAll o_oftenRoad o_oftenPegs), (b 4, .inl (cB, 900, .inl o_f4))] := hD
                          rcases hw519 with ⟨rfl, a521, a522⟩ | ⟨rfl, a523⟩
                          · exact absurd (And.intro a521 a522) (by omega)
                          · skip
                            refine lv_if_eq (tgt := 206) hx hb dX10_advance_162 (by decide) (fun c524 => ?_) (fun c524 => absurd (by decide) c524)
                            refine lv_aload_n hx hb dX10_advance_206 rfl (lv_at hl 1 rfl) ?_
                            refine lv_iconst (v := 2) hx hb dX10_advance_207 (by decide) ?_
                            refine va_put (D := G) (ci := 10) (v := .int 2) (ty := .int) (C := RX10) (T := TX10) (N := 46) hx hb hts iG_X10 tyX10 tyX10_ok nmX10 hown hK hP hD hS 0 rfl rfl 10 (by decide) (hts _ w_1202) (fun _ h9 => h9) rfl (by decide +kernel) rfl rfl (Nat.le_of_ble_eq_true rfl) dX10_advance_208 (fun H locs hP hD hS => ?_)
                            have hP : va_P G vwCl [(h0, oX10 b o_thrown o_taped o_size z501 z3 2 z500 o_faultKind o_faultPlace o_lawNow o_walkSet o_oneWidow o_oneTurn o_askWorst o_mayWalk o_oftenAll o_oftenRoad o_oftenPegs), (b 4, .inl (cB, 900, .inl o_f4))] H := hP
                            have hD : va_D A [(h0, oX10 b o_thrown o_taped o_size z501 z3 2 z500 o_faultKind o_faultPlace o_lawNow o_walkSet o_oneWidow o_oneTurn o_askWorst o_mayWalk o_oftenAll o_oftenRoad o_oftenPegs), (b 4, .inl (cB, 900, .inl o_f4))] := hD
                            refine lv_goto (tgt := 239) hx hb dX10_advance_211 (by decide) ?_
                            exact hret _ _ _ _ (z501, z3, 2, z500) hP hD hS dX10_advance_239 (show 0 ≤ z501.toInt ∧ z501.toInt ≤ 900 ∧ 0 ≤ z3.toInt ∧ z3.toInt ≤ 900 ∧ o_at.toInt ≤ z3.toInt ∧ z3.toInt ≤ z501.toInt ∧ ((2 : Int32).toInt = 0 ∨ z3.toInt < z501.toInt) from ⟨k502, k503, k4, (by omega), (by omega), (by omega), (Or.inr (by omega))⟩)
                        · skip
                          obtain ⟨v525, ev525⟩ : ∃ y : Int64, r506.toInt64 = y := ⟨_, rfl⟩
                          have tv525 : v525.toInt = r506.toInt := ti_wide rfl ev525
                          refine lv_i2l (v := v525) hx hb dX10_advance_152 ev525 ?_
                          refine lv_ldc2 (v := 48) hx hb hown (hts _ w_1369) dX10_advance_153 ?_
                          refine lv_ldc2 (v := 57) hx hb hown (hts _ w_1370) dX10_advance_156 ?_
                          refine k_i (wc := []) (wr := [(h0, oX10 b o_thrown o_taped o_size z501 z3 o_token z500 o_faultKind o_faultPlace o_lawNow o_walkSet o_oneWidow o_oneTurn o_askWorst o_mayWalk o_oftenAll o_oftenRoad o_oftenPegs), (b 4, .inl (cB, 900, .inl o_f4))]) hP hD hS hA [] [0, 1] rfl rfl rfl (by decide) (va_runS (As := [.long v525, .long 48, .long 57]) (rest := []) ⟨hx, hb, hml, hown, hts⟩ (f_X10_in l G cI cJ cZ cB cQ _ v525 r506.toInt 48 48 57 57 tv525 kl_48 kl_57) (va_cwS 3 hts (gS w_1336 w_1337 w_11 w_1338) rfl rfl rfl hd_X10_in ⟨Nat.le_of_ble_eq_true rfl, Nat.le_of_ble_eq_true rfl⟩) (mS hK hZ hP hD [] rfl rfl [.long v525, .long 48, .long 57]) rfl rfl hl.1 rfl (lv_room (Nat.le_of_ble_eq_true rfl)) dX10_advance_159 ⟨Nat.le_of_ble_eq_true rfl, Nat.le_of_ble_eq_true rfl⟩) (fun r526 u527 H locs hw528 hP hD hS => ?_)
                          try dsimp only at hw528
                          have hP : va_P G vwCl [(h0, oX10 b o_thrown o_taped o_size z501 z3 o_token z500 o_faultKind o_faultPlace o_lawNow o_walkSet o_oneWidow o_oneTurn o_askWorst o_mayWalk o_oftenAll o_oftenRoad o_oftenPegs), (b 4, .inl (cB, 900, .inl o_f4))] H := hP
                          have hD : va_D A [(h0, oX10 b o_thrown o_taped o_size z501 z3 o_token z500 o_faultKind o_faultPlace o_lawNow o_walkSet o_oneWidow o_oneTurn o_askWorst o_mayWalk o_oftenAll o_oftenRoad o_oftenPegs), (b 4, .inl (cB, 900, .inl o_f4))] := hD
                          rcases hw528 with ⟨rfl, a530, a531⟩ | ⟨rfl, a532⟩
                          · skip
                            refine lv_if_eq (tgt := 206) hx hb dX10_advance_162 (by decide) (fun c533 => absurd c533 (by decide)) (fun c533 => ?_)
                            refine lv_aload_n hx hb dX10_advance_165 rfl (lv_at hl 1 rfl) ?_
                            refine lv_ldc (v := 99999) hx hb hown (hts _ w_1371) dX10_advance_166 ?_
                            refine lv_bipush (v := 10) hx hb dX10_advance_168 (by decide) ?_
                            refine lv_aload_n hx hb dX10_advance_170 rfl (lv_at hl 1 rfl) ?_
                            refine va_get (D := G) (ci := 10) (v := .int z500) (C := RX10) (T := TX10) (N := 46) hx hb hts iG_X10 hown hK hP 0 rfl rfl 11 (by decide) (hts _ w_1203) (fun _ h9 => h9) rfl dX10_advance_171 ?_
                            refine lv_imul hx hb dX10_advance_174 ?_
                            refine lv_topi (fun v534 ev534 => ?_)
                            refine lv_aload_n hx hb dX10_advance_175 rfl (lv_at hl 1 rfl) ?_
                            refine lv_aload_n hx hb dX10_advance_176 rfl (lv_at hl 1 rfl) ?_
                            refine va_get (D := G) (ci := 10) (v := .int z501) (C := RX10) (T := TX10) (N := 46) hx hb hts iG_X10 hown hK hP 0 rfl rfl 8 (by decide) (hts _ w_1200) (fun _ h9 => h9) rfl dX10_advance_177 ?_
                            refine k_i (wc := [(h0, oX10 b o_thrown o_taped o_size z501 z3 o_token z500 o_faultKind o_faultPlace o_lawNow o_walkSet o_oneWidow o_oneTurn o_askWorst o_mayWalk o_oftenAll o_oftenRoad o_oftenPegs), (b 4, .inl (cB, 900, .inl o_f4))]) (wr := []) hP hD hS hA [0, 1] [] rfl rfl rfl (by decide) (va_runV (As := [.int z501]) (rest := [.int v534, .int 99999, .ref h0]) ⟨hx, hb, hml, hown, hts⟩ (f_X10_see l G cI cJ cZ cB cQ _ h0 z501 z501.toInt b o_thrown o_taped o_size z501 z3 o_token z500 o_faultKind o_faultPlace o_lawNow o_walkSet o_oneWidow o_oneTurn o_askWorst o_mayWalk o_oftenAll o_oftenRoad o_oftenPegs o_f4 rfl (by omega) hl_o_taped hh_o_taped hl_o_size hh_o_size k502 (by omega) k4 (by omega) hl_o_oneTurn hh_o_oneTurn) (cwV 1 hts (gV w_1363 w_1365 wp_84 w_11 w_1366) rfl rfl rfl ⟨rfl, hd_X10_see⟩ ⟨Nat.le_of_ble_eq_true rfl, Nat.le_of_ble_eq_true rfl⟩) (mV hK hZ hP hD [0, 1] rfl rfl [.int z501] 0 10 rfl rfl) rfl rfl hl.1 rfl (lv_room (Nat.le_of_ble_eq_true rfl)) dX10_advance_180 ⟨Nat.le_of_ble_eq_true rfl, Nat.le_of_ble_eq_true rfl⟩) (fun r535 u536 H locs hw537 hP hD hS => ?_)
                            try dsimp only at hw537
                            have hP : va_P G vwCl [(h0, oX10 b o_thrown o_taped o_size z501 z3 o_token z500 o_faultKind o_faultPlace o_lawNow o_walkSet o_oneWidow o_oneTurn o_askWorst o_mayWalk o_oftenAll o_oftenRoad o_oftenPegs), (b 4, .inl (cB, 900, .inl o_f4))] H := hP
                            have hD : va_D A [(h0, oX10 b o_thrown o_taped o_size z501 z3 o_token z500 o_faultKind o_faultPlace o_lawNow o_walkSet o_oneWidow o_oneTurn o_askWorst o_mayWalk o_oftenAll o_oftenRoad o_oftenPegs), (b 4, .inl (cB, 900, .inl o_f4))] := hD
                            rcases hw537 with ⟨rfl, s539, s540⟩ | ⟨s541, s542, s543, s544⟩
                            · skip
                              refine lv_iadd hx hb dX10_advance_183 ?_
                              refine lv_topi (fun v545 ev545 => ?_)
                              refine lv_bipush (v := 48) hx hb dX10_advance_184 (by decide) ?_
                              refine lv_isub hx hb dX10_advance_186 ?_
                              refine lv_topi (fun v546 ev546 => ?_)
                              refine va_mmin hx hb (by rw [hml]; exact hl.1.symm) hown (hts _ w_1372) (hts _ w_502) (hts _ w_16) (hts _ w_503) (Nat.le_of_ble_eq_true rfl) (Nat.le_of_ble_eq_true rfl) (Nat.le_of_ble_eq_true rfl) (Nat.le_of_ble_eq_true rfl) dX10_advance_187 ?_
                              refine lv_topi (fun v547 ev547 => ?_)
                              refine va_put (D := G) (ci := 10) (v := .int v547) (ty := .int) (C := RX10) (T := TX10) (N := 46) hx hb hts iG_X10 tyX10 tyX10_ok nmX10 hown hK hP hD hS 0 rfl rfl 11 (by decide) (hts _ w_1203) (fun _ h9 => h9) rfl (by decide +kernel) rfl rfl (Nat.le_of_ble_eq_true rfl) dX10_advance_190 (fun H locs hP hD hS => ?_)
                              have hP : va_P G vwCl [(h0, oX10 b o_thrown o_taped o_size z501 z3 o_token v547 o_faultKind o_faultPlace o_lawNow o_walkSet o_oneWidow o_oneTurn o_askWorst o_mayWalk o_oftenAll o_oftenRoad o_oftenPegs), (b 4, .inl (cB, 900, .inl o_f4))] H := hP
                              have hD : va_D A [(h0, oX10 b o_thrown o_taped o_size z501 z3 o_token v547 o_faultKind o_faultPlace o_lawNow o_walkSet o_oneWidow o_oneTurn o_askWorst o_mayWalk o_oftenAll o_oftenRoad o_oftenPegs), (b 4, .inl (cB, 900, .inl o_f4))] := hD
                              refine lv_aload_n hx hb dX10_advance_193 rfl (lv_at hl 1 rfl) ?_
                              refine lv_dup hx hb dX10_advance_194 rfl ?_
                              refine va_get (D := G) (ci := 10) (v := .int z501) (C := RX10) (T := TX10) (N := 46) hx hb hts iG_X10 hown hK hP 0 rfl rfl 8 (by decide) (hts _ w_1200) (fun _ h9 => h9) rfl dX10_advance_195 ?_
                              refine lv_iconst (v := 1) hx hb dX10_advance_198 (by decide) ?_
                              refine lv_iadd hx hb dX10_advance_199 ?_
                              refine lv_topi (fun v548 ev548 => ?_)
                              have tv548 : v548.toInt = z501.toInt + 1 := ti_add rfl ki_1 ev548 (by omega) (by omega)
                              refine va_put (D := G) (ci := 10) (v := .int v548) (ty := .int) (C := RX10) (T := TX10) (N := 46) hx hb hts iG_X10 tyX10 tyX10_ok nmX10 hown hK hP hD hS 0 rfl rfl 8 (by decide) (hts _ w_1200) (fun _ h9 => h9) rfl (by decide +kernel) rfl rfl (Nat.le_of_ble_eq_true rfl) dX10_advance_200 (fun H locs hP hD hS => ?_)
                              have hP : va_P G vwCl [(h0, oX10 b o_thrown o_taped o_size v548 z3 o_token v547 o_faultKind o_faultPlace o_lawNow o_walkSet o_oneWidow o_oneTurn o_askWorst o_mayWalk o_oftenAll o_oftenRoad o_oftenPegs), (b 4, .inl (cB, 900, .inl o_f4))] H := hP
                              have hD : va_D A [(h0, oX10 b o_thrown o_taped o_size v548 z3 o_token v547 o_faultKind o_faultPlace o_lawNow o_walkSet o_oneWidow o_oneTurn o_askWorst o_mayWalk o_oftenAll o_oftenRoad o_oftenPegs), (b 4, .inl (cB, 900, .inl o_f4))] := hD
                              refine lv_goto (tgt := 144) hx hb dX10_advance_203 (by decide) ?_
                              exact ih504 v547 v548 (by omega) (by omega) (by omega) (by omega) (by omega) _ _ hP hD hS ls (lv_sub hl [0, 1] rfl)
                            · skip
                              refine lv_iadd hx hb dX10_advance_183 ?_
                              refine lv_topi (fun v549 ev549 => ?_)
                              refine lv_bipush (v := 48) hx hb dX10_advance_184 (by decide) ?_
                              refine lv_isub hx hb dX10_advance_186 ?_
                              refine lv_topi (fun v550 ev550 => ?_)
                              refine va_mmin hx hb (by rw [hml]; exact hl.1.symm) hown (hts _ w_1372) (hts _ w_502) (hts _ w_16) (hts _ w_503) (Nat.le_of_ble_eq_true rfl) (Nat.le_of_ble_eq_true rfl) (Nat.le_of_ble_eq_true rfl) (Nat.le_of_ble_eq_true rfl) dX10_advance_187 ?_
                              refine lv_topi (fun v551 ev551 => ?_)
                              refine va_put (D := G) (ci := 10) (v := .int v551) (ty := .int) (C := RX10) (T := TX10) (N := 46) hx hb hts iG_X10 tyX10 tyX10_ok nmX10 hown hK hP hD hS 0 rfl rfl 11 (by decide) (hts _ w_1203) (fun _ h9 => h9) rfl (by decide +kernel) rfl rfl (Nat.le_of_ble_eq_true rfl) dX10_advance_190 (fun H locs hP hD hS => ?_)
                              have hP : va_P G vwCl [(h0, oX10 b o_thrown o_taped o_size z501 z3 o_token v551 o_faultKind o_faultPlace o_lawNow o_walkSet o_oneWidow o_oneTurn o_askWorst o_mayWalk o_oftenAll o_oftenRoad o_oftenPegs), (b 4, .inl (cB, 900, .inl o_f4))] H := hP
                              have hD : va_D A [(h0, oX10 b o_thrown o_taped o_size z501 z3 o_token v551 o_faultKind o_faultPlace o_lawNow o_walkSet o_oneWidow o_oneTurn o_askWorst o_mayWalk o_oftenAll o_oftenRoad o_oftenPegs), (b 4, .inl (cB, 900, .inl o_f4))] := hD
                              refine lv_aload_n hx hb dX10_advance_193 rfl (lv_at hl 1 rfl) ?_
                              refine lv_dup hx hb dX10_advance_194 rfl ?_
                              refine va_get (D := G) (ci := 10) (v := .int z501) (C := RX10) (T := TX10) (N := 46) hx hb hts iG_X10 hown hK hP 0 rfl rfl 8 (by decide) (hts _ w_1200) (fun _ h9 => h9) rfl dX10_advance_195 ?_
                              refine lv_iconst (v := 1) hx hb dX10_advance_198 (by decide) ?_
                              refine lv_iadd hx hb dX10_advance_199 ?_
                              refine lv_topi (fun v552 ev552 => ?_)
                              have tv552 : v552.toInt = z501.toInt + 1 := ti_add rfl ki_1 ev552 (by omega) (by omega)
                              refine va_put (D := G) (ci := 10) (v := .int v552) (ty := .int) (C := RX10) (T := TX10) (N := 46) hx hb hts iG_X10 tyX10 tyX10_ok nmX10 hown hK hP hD hS 0 rfl rfl 8 (by decide) (hts _ w_1200) (fun _ h9 => h9) rfl (by decide +kernel) rfl rfl (Nat.le_of_ble_eq_true rfl) dX10_advance_200 (fun H locs hP hD hS => ?_)
                              have hP : va_P G vwCl [(h0, oX10 b o_thrown o_taped o_size v552 z3 o_token v551 o_faultKind o_faultPlace o_lawNow o_walkSet o_oneWidow o_oneTurn o_askWorst o_mayWalk o_oftenAll o_oftenRoad o_oftenPegs), (b 4, .inl (cB, 900, .inl o_f4))] H := hP
                              have hD : va_D A [(h0, oX10 b o_thrown o_taped o_size v552 z3 o_token v551 o_faultKind o_faultPlace o_lawNow o_walkSet o_oneWidow o_oneTurn o_askWorst o_mayWalk o_oftenAll o_oftenRoad o_oftenPegs), (b 4, .inl (cB, 900, .inl o_f4))] := hD
                              refine lv_goto (tgt := 144) hx hb dX10_advance_203 (by decide) ?_
                              exact ih504 v551 v552 (by omega) (by omega) (by omega) (by omega) (by omega) _ _ hP hD hS ls (lv_sub hl [0, 1] rfl)
                          · skip
                            refine lv_if_eq (tgt := 206) hx hb dX10_advance_162 (by decide) (fun c553 => ?_) (fun c553 => absurd (by decide) c553)
                            refine lv_aload_n hx hb dX10_advance_206 rfl (lv_at hl 1 rfl) ?_
                            refine lv_iconst (v := 2) hx hb dX10_advance_207 (by decide) ?_
                            refine va_put (D := G) (ci := 10) (v := .int 2) (ty := .int) (C := RX10) (T := TX10) (N := 46) hx hb hts iG_X10 tyX10 tyX10_ok nmX10 hown hK hP hD hS 0 rfl rfl 10 (by decide) (hts _ w_1202) (fun _ h9 => h9) rfl (by decide +kernel) rfl rfl (Nat.le_of_ble_eq_true rfl) dX10_advance_208 (fun H locs hP hD hS => ?_)
                            have hP : va_P G vwCl [(h0, oX10 b o_thrown o_taped o_size z501 z3 2 z500 o_faultKind o_faultPlace o_lawNow o_walkSet o_oneWidow o_oneTurn o_askWorst o_mayWalk o_oftenAll o_oftenRoad o_oftenPegs), (b 4, .inl (cB, 900, .inl o_f4))] H := hP
                            have hD : va_D A [(h0, oX10 b o_thrown o_taped o_size z501 z3 2 z500 o_faultKind o_faultPlace o_lawNow o_walkSet o_oneWidow o_oneTurn o_askWorst o_mayWalk o_oftenAll o_oftenRoad o_oftenPegs), (b 4, .inl (cB, 900, .inl o_f4))] := hD
                            refine lv_goto (tgt := 239) hx hb dX10_advance_211 (by decide) ?_
                            exact hret _ _ _ _ (z501, z3, 2, z500) hP hD hS dX10_advance_239 (show 0 ≤ z501.toInt ∧ z501.toInt ≤ 900 ∧ 0 ≤ z3.toInt ∧ z3.toInt ≤ 900 ∧ o_at.toInt ≤ z3.toInt ∧ z3.toInt ≤ z501.toInt ∧ ((2 : Int32).toInt = 0 ∨ z3.toInt < z501.toInt) from ⟨k502, (by omega), k4, (by omega), (by omega), (by omega), (Or.inr (by omega))⟩)
                    exact lp498 901 0 z3 k4 (by omega) (by omega) (by omega) (by have q9 := fb_rng z3; omega) _ _ hP hD hS ls (lv_sub hl [0, 1] rfl)
                  · skip
                    refine lv_if_eq (tgt := 214) hx hb dX10_advance_136 (by decide) (fun c554 => ?_) (fun c554 => absurd (by decide) c554)
                    refine lv_aload_n hx hb dX10_advance_214 rfl (lv_at hl 1 rfl) ?_
                    refine lv_iload_n hx hb dX10_advance_215 rfl (lv_at hl 0 rfl) ?_
                    refine lv_bipush (v := 59) hx hb dX10_advance_216 (by decide) ?_
                    refine lv_icmp_ne (tgt := 225) hx hb dX10_advance_218 (by decide) (fun c555 => ?_) (fun c555 => ?_)
                    · have c555 := i_ne rfl ki_59 c555
                      refine lv_iconst (v := 4) hx hb dX10_advance_225 (by decide) ?_
                      refine va_put (D := G) (ci := 10) (v := .int 4) (ty := .int) (C := RX10) (T := TX10) (N := 46) hx hb hts iG_X10 tyX10 tyX10_ok nmX10 hown hK hP hD hS 0 rfl rfl 10 (by decide) (hts _ w_1202) (fun _ h9 => h9) rfl (by decide +kernel) rfl rfl (Nat.le_of_ble_eq_true rfl) dX10_advance_226 (fun H locs hP hD hS => ?_)
                      have hP : va_P G vwCl [(h0, oX10 b o_thrown o_taped o_size z3 z3 4 o_value o_faultKind o_faultPlace o_lawNow o_walkSet o_oneWidow o_oneTurn o_askWorst o_mayWalk o_oftenAll o_oftenRoad o_oftenPegs), (b 4, .inl (cB, 900, .inl o_f4))] H := hP
                      have hD : va_D A [(h0, oX10 b o_thrown o_taped o_size z3 z3 4 o_value o_faultKind o_faultPlace o_lawNow o_walkSet o_oneWidow o_oneTurn o_askWorst o_mayWalk o_oftenAll o_oftenRoad o_oftenPegs), (b 4, .inl (cB, 900, .inl o_f4))] := hD
                      refine lv_aload_n hx hb dX10_advance_229 rfl (lv_at hl 1 rfl) ?_
                      refine lv_dup hx hb dX10_advance_230 rfl ?_
                      refine va_get (D := G) (ci := 10) (v := .int z3) (C := RX10) (T := TX10) (N := 46) hx hb hts iG_X10 hown hK hP 0 rfl rfl 8 (by decide) (hts _ w_1200) (fun _ h9 => h9) rfl dX10_advance_231 ?_
                      refine lv_iconst (v := 1) hx hb dX10_advance_234 (by decide) ?_
                      refine lv_iadd hx hb dX10_advance_235 ?_
                      refine lv_topi (fun v556 ev556 => ?_)
                      have tv556 : v556.toInt = z3.toInt + 1 := ti_add rfl ki_1 ev556 (by omega) (by omega)
                      refine va_put (D := G) (ci := 10) (v := .int v556) (ty := .int) (C := RX10) (T := TX10) (N := 46) hx hb hts iG_X10 tyX10 tyX10_ok nmX10 hown hK hP hD hS 0 rfl rfl 8 (by decide) (hts _ w_1200) (fun _ h9 => h9) rfl (by decide +kernel) rfl rfl (Nat.le_of_ble_eq_true rfl) dX10_advance_236 (fun H locs hP hD hS => ?_)
                      have hP : va_P G vwCl [(h0, oX10 b o_thrown o_taped o_size v556 z3 4 o_value o_faultKind o_faultPlace o_lawNow o_walkSet o_oneWidow o_oneTurn o_askWorst o_mayWalk o_oftenAll o_oftenRoad o_oftenPegs), (b 4, .inl (cB, 900, .inl o_f4))] H := hP
                      have hD : va_D A [(h0, oX10 b o_thrown o_taped o_size v556 z3 4 o_value o_faultKind o_faultPlace o_lawNow o_walkSet o_oneWidow o_oneTurn o_askWorst o_mayWalk o_oftenAll o_oftenRoad o_oftenPegs), (b 4, .inl (cB, 900, .inl o_f4))] := hD
                      exact hret _ _ _ _ (v556, z3, 4, o_value) hP hD hS dX10_advance_239 (show 0 ≤ v556.toInt ∧ v556.toInt ≤ 900 ∧ 0 ≤ z3.toInt ∧ z3.toInt ≤ 900 ∧ o_at.toInt ≤ z3.toInt ∧ z3.toInt ≤ v556.toInt ∧ ((4 : Int32).toInt = 0 ∨ z3.toInt < v556.toInt) from ⟨(by omega), (by omega), k4, (by omega), (by omega), (by omega), (Or.inr (by omega))⟩)
                    · have c555 := i_eq rfl ki_59 c555
                      refine lv_iconst (v := 3) hx hb dX10_advance_221 (by decide) ?_
                      refine lv_goto (tgt := 226) hx hb dX10_advance_222 (by decide) ?_
                      refine va_put (D := G) (ci := 10) (v := .int 3) (ty := .int) (C := RX10) (T := TX10) (N := 46) hx hb hts iG_X10 tyX10 tyX10_ok nmX10 hown hK hP hD hS 0 rfl rfl 10 (by decide) (hts _ w_1202) (fun _ h9 => h9) rfl (by decide +kernel) rfl rfl (Nat.le_of_ble_eq_true rfl) dX10_advance_226 (fun H locs hP hD hS => ?_)
                      have hP : va_P G vwCl [(h0, oX10 b o_thrown o_taped o_size z3 z3 3 o_value o_faultKind o_faultPlace o_lawNow o_walkSet o_oneWidow o_oneTurn o_askWorst o_mayWalk o_oftenAll o_oftenRoad o_oftenPegs), (b 4, .inl (cB, 900, .inl o_f4))] H := hP
                      have hD : va_D A [(h0, oX10 b o_thrown o_taped o_size z3 z3 3 o_value o_faultKind o_faultPlace o_lawNow o_walkSet o_oneWidow o_oneTurn o_askWorst o_mayWalk o_oftenAll o_oftenRoad o_oftenPegs), (b 4, .inl (cB, 900, .inl o_f4))] := hD
                      refine lv_aload_n hx hb dX10_advance_229 rfl (lv_at hl 1 rfl) ?_
                      refine lv_dup hx hb dX10_advance_230 rfl ?_
                      refine va_get (D := G) (ci := 10) (v := .int z3) (C := RX10) (T := TX10) (N := 46) hx hb hts iG_X10 hown hK hP 0 rfl rfl 8 (by decide) (hts _ w_1200) (fun _ h9 => h9) rfl dX10_advance_231 ?_
                      refine lv_iconst (v := 1) hx hb dX10_advance_234 (by decide) ?_
                      refine lv_iadd hx hb dX10_advance_235 ?_
                      refine lv_topi (fun v557 ev557 => ?_)
                      have tv557 : v557.toInt = z3.toInt + 1 := ti_add rfl ki_1 ev557 (by omega) (by omega)
                      refine va_put (D := G) (ci := 10) (v := .int v557) (ty := .int) (C := RX10) (T := TX10) (N := 46) hx hb hts iG_X10 tyX10 tyX10_ok nmX10 hown hK hP hD hS 0 rfl rfl 8 (by decide) (hts _ w_1200) (fun _ h9 => h9) rfl (by decide +kernel) rfl rfl (Nat.le_of_ble_eq_true rfl) dX10_advance_236 (fun H locs hP hD hS => ?_)
                      have hP : va_P G vwCl [(h0, oX10 b o_thrown o_taped o_size v557 z3 3 o_value o_faultKind o_faultPlace o_lawNow o_walkSet o_oneWidow o_oneTurn o_askWorst o_mayWalk o_oftenAll o_oftenRoad o_oftenPegs), (b 4, .inl (cB, 900, .inl o_f4))] H := hP
                      have hD : va_D A [(h0, oX10 b o_thrown o_taped o_size v557 z3 3 o_value o_faultKind o_faultPlace o_lawNow o_walkSet o_oneWidow o_oneTurn o_askWorst o_mayWalk o_oftenAll o_oftenRoad o_oftenPegs), (b 4, .inl (cB, 900, .inl o_f4))] := hD
                      exact hret _ _ _ _ (v557, z3, 3, o_value) hP hD hS dX10_advance_239 (show 0 ≤ v557.toInt ∧ v557.toInt ≤ 900 ∧ 0 ≤ z3.toInt ∧ z3.toInt ≤ 900 ∧ o_at.toInt ≤ z3.toInt ∧ z3.toInt ≤ v557.toInt ∧ ((3 : Int32).toInt = 0 ∨ z3.toInt < v557.toInt) from ⟨(by omega), (by omega), k4, (by omega), (by omega), (by omega), (Or.inr (by omega))⟩)
            · have c429 := i_eq rfl ki_10 c429
              refine lv_aload_n hx hb dX10_advance_26 rfl (lv_at hl 0 rfl) ?_
              refine lv_dup hx hb dX10_advance_27 rfl ?_
              refine va_get (D := G) (ci := 10) (v := .int z3) (C := RX10) (T := TX10) (N := 46) hx hb hts iG_X10 hown hK hP 0 rfl rfl 8 (by decide) (hts _ w_1200) (fun _ h9 => h9) rfl dX10_advance_28 ?_
              refine lv_iconst (v := 1) hx hb dX10_advance_31 (by decide) ?_
              refine lv_iadd hx hb dX10_advance_32 ?_
              refine lv_topi (fun v558 ev558 => ?_)
              have tv558 : v558.toInt = z3.toInt + 1 := ti_add rfl ki_1 ev558 (by omega) (by omega)
              refine va_put (D := G) (ci := 10) (v := .int v558) (ty := .int) (C := RX10) (T := TX10) (N := 46) hx hb hts iG_X10 tyX10 tyX10_ok nmX10 hown hK hP hD hS 0 rfl rfl 8 (by decide) (hts _ w_1200) (fun _ h9 => h9) rfl (by decide +kernel) rfl rfl (Nat.le_of_ble_eq_true rfl) dX10_advance_33 (fun H locs hP hD hS => ?_)
              have hP : va_P G vwCl [(h0, oX10 b o_thrown o_taped o_size v558 o_from o_token o_value o_faultKind o_faultPlace o_lawNow o_walkSet o_oneWidow o_oneTurn o_askWorst o_mayWalk o_oftenAll o_oftenRoad o_oftenPegs), (b 4, .inl (cB, 900, .inl o_f4))] H := hP
              have hD : va_D A [(h0, oX10 b o_thrown o_taped o_size v558 o_from o_token o_value o_faultKind o_faultPlace o_lawNow o_walkSet o_oneWidow o_oneTurn o_askWorst o_mayWalk o_oftenAll o_oftenRoad o_oftenPegs), (b 4, .inl (cB, 900, .inl o_f4))] := hD
              refine lv_goto (tgt := 0) hx hb dX10_advance_36 (by decide) ?_
              exact ih6 v558 (by omega) (by omega) (by omega) (by omega) _ _ hP hD hS ls (lv_sub hl [0] rfl)
  exact lp1 901 o_at hl_o_at hh_o_at (by omega) (by have q9 := fb_rng o_at; omega) _ _ hP hD hS ls (lv_sub hl [0] rfl)
set_option maxHeartbeats 4000000 in
set_option maxRecDepth 100000 in
theorem f_X10_good (l : Launch) (G : va_G) (cI cJ cZ cB cQ : ClassId) (sz : Nat) (h0 : Nat) (b : Nat → Nat) (o_thrown : Int32) (o_taped : Int32) (o_size : Int32) (o_at : Int32) (o_from : Int32) (o_token : Int32) (o_value : Int32) (o_faultKind : Int32) (o_faultPlace : Int32) (o_lawNow : Int32) (o_walkSet : Int32) (o_oneWidow : Int32) (o_oneTurn : Int32) (o_askWorst : Int32) (o_mayWalk : Int32) (o_oftenAll : Int64) (o_oftenRoad : Int64) (o_oftenPegs : Int64) (hl_o_taped : 0 ≤ o_taped.toInt) (hh_o_taped : o_taped.toInt ≤ 900) (hl_o_size : 0 ≤ o_size.toInt) (hh_o_size : o_size.toInt ≤ 900) (hl_o_at : 0 ≤ o_at.toInt) (hh_o_at : o_at.toInt ≤ 900) (hl_o_from : 0 ≤ o_from.toInt) (hh_o_from : o_from.toInt ≤ 900) (hl_o_oneTurn : 0 ≤ o_oneTurn.toInt) (hh_o_oneTurn : o_oneTurn.toInt ≤ 4) : CI l yX10_good (wl_ yX10_good cX10_good 1 (some .boolean)) ({ frames := 0, cells := 0, slots := 0, locals := 0 } : Room) G (TY cI cJ cZ cB cQ) [.ref h0] [(h0, oX10 b o_thrown o_taped o_size o_at o_from o_token o_value o_faultKind o_faultPlace o_lawNow o_walkSet o_oneWidow o_oneTurn o_askWorst o_mayWalk o_oftenAll o_oftenRoad o_oftenPegs)] sz (fun (r : Int32) (u : Unit) => ((r = 1 ∧ o_faultKind.toInt = 0) ∨ (r = 0 ∧ ¬ o_faultKind.toInt = 0))) (fun _ : Unit => [(h0, oX10 b o_thrown o_taped o_size o_at o_from o_token o_value o_faultKind o_faultPlace o_lawNow o_walkSet o_oneWidow o_oneTurn o_askWorst o_mayWalk o_oftenAll o_oftenRoad o_oftenPegs)]) 0 0 := by
  refine CI.goz (cc := cX10_good) (maxL := 1) (ret := (some .boolean)) (by decide) rfl (Nat.le_of_ble_eq_true rfl) ?_
  intro p e s m below meth c A ls Q hBd hret
  obtain ⟨hx, hb, hr, hml, hts, hown, hlk, hnm, hP, hK, hD, hA, hZ, hl⟩ := hBd
  have hown : s.vm.findClass RX10 = some m.cls := hown
  have hl : lv_has ls 1 [(0, .ref h0)] := hl
  have hS : va_S A s.heap s.heap [] := va_S.rf
  refine lv_aload_n hx hb dX10_good_0 rfl (lv_at hl 0 rfl) ?_
  refine va_get (D := G) (ci := 10) (v := .int o_faultKind) (C := RX10) (T := TX10) (N := 46) hx hb hts iG_X10 hown hK hP 0 rfl rfl 12 (by decide) (hts _ w_1204) (fun _ h9 => h9) rfl dX10_good_1 ?_
  refine lv_if_ne (tgt := 11) hx hb dX10_good_4 (by decide) (fun c1 => ?_) (fun c1 => ?_)
  · have c1 := i_ne rfl ki_0 c1
    refine lv_iconst (v := 0) hx hb dX10_good_11 (by decide) ?_
    exact hret _ _ _ _ 0 () hP hD hS dX10_good_12 rfl (show (((0 : Int32) = 1 ∧ o_faultKind.toInt = 0) ∨ ((0 : Int32) = 0 ∧ ¬ o_faultKind.toInt = 0)) from (Or.inr ⟨rfl, by omega⟩))
  · have c1 := i_eq rfl ki_0 c1
    refine lv_iconst (v := 1) hx hb dX10_good_7 (by decide) ?_
    refine lv_goto (tgt := 12) hx hb dX10_good_8 (by decide) ?_
    exact hret _ _ _ _ 1 () hP hD hS dX10_good_12 rfl (show (((1 : Int32) = 1 ∧ o_faultKind.toInt = 0) ∨ ((1 : Int32) = 0 ∧ ¬ o_faultKind.toInt = 0)) from (Or.inl ⟨rfl, by omega⟩))
set_option maxHeartbeats 4000000 in
set_option maxRecDepth 100000 in
theorem f_X10_errs (l : Launch) (G : va_G) (cI cJ cZ cB cQ : ClassId) (sz : Nat) (h0 : Nat) (p0 : Int32) (a0 : Int) (b : Nat → Nat) (o_thrown : Int32) (o_taped : Int32) (o_size : Int32) (o_at : Int32) (o_from : Int32) (o_token : Int32) (o_value : Int32) (o_faultKind : Int32) (o_faultPlace : Int32) (o_lawNow : Int32) (o_walkSet : Int32) (o_oneWidow : Int32) (o_oneTurn : Int32) (o_askWorst : Int32) (o_mayWalk : Int32) (o_oftenAll : Int64) (o_oftenRoad : Int64) (o_oftenPegs : Int64) (hp0 : p0.toInt = a0) (hk0 : ¬ a0 = 0) (hl_o_taped : 0 ≤ o_taped.toInt) (hh_o_taped : o_taped.toInt ≤ 900) (hl_o_size : 0 ≤ o_size.toInt) (hh_o_size : o_size.toInt ≤ 900) (hl_o_at : 0 ≤ o_at.toInt) (hh_o_at : o_at.toInt ≤ 900) (hl_o_from : 0 ≤ o_from.toInt) (hh_o_from : o_from.toInt ≤ 900) (hl_o_oneTurn : 0 ≤ o_oneTurn.toInt) (hh_o_oneTurn : o_oneTurn.toInt ≤ 4) : CV l yX10_errs (wl_ yX10_errs cX10_errs 2 none) ({ frames := 1, cells := 0, slots := 0, locals := 20 } : Room) G (TY cI cJ cZ cB cQ) [.ref h0, .int p0] [(h0, oX10 b o_thrown o_taped o_size o_at o_from o_token o_value o_faultKind o_faultPlace o_lawNow o_walkSet o_oneWidow o_oneTurn o_askWorst o_mayWalk o_oftenAll o_oftenRoad o_oftenPegs)] sz (fun (u : Int32 × Int32) => ¬ u.1.toInt = 0) (fun u : Int32 × Int32 => [(h0, oX10 b o_thrown o_taped o_size o_at o_from o_token o_value u.1 u.2 o_lawNow o_walkSet o_oneWidow o_oneTurn o_askWorst o_mayWalk o_oftenAll o_oftenRoad o_oftenPegs)]) 0 0 := by
  refine CV.go (cc := cX10_errs) (maxL := 2) (ret := none) (by decide) rfl (Nat.le_of_ble_eq_true rfl) ?_
  intro p e s m below meth c A ls Q hBd hret
  obtain ⟨hx, hb, hr, hml, hts, hown, hlk, hnm, hP, hK, hD, hA, hZ, hl⟩ := hBd
  have hown : s.vm.findClass RX10 = some m.cls := hown
  have hl : lv_has ls 2 [(0, .ref h0), (1, .int p0)] := hl
  have hS : va_S A s.heap s.heap [] := va_S.rf
  refine lv_aload_n hx hb dX10_errs_0 rfl (lv_at hl 0 rfl) ?_
  refine k_i (wc := [(h0, oX10 b o_thrown o_taped o_size o_at o_from o_token o_value o_faultKind o_faultPlace o_lawNow o_walkSet o_oneWidow o_oneTurn o_askWorst o_mayWalk o_oftenAll o_oftenRoad o_oftenPegs)]) (wr := []) hP hD hS hA [0] [] rfl rfl rfl (by decide) (va_runV (As := []) (rest := []) ⟨hx, hb, hml, hown, hts⟩ (f_X10_good l G cI cJ cZ cB cQ _ h0 b o_thrown o_taped o_size o_at o_from o_token o_value o_faultKind o_faultPlace o_lawNow o_walkSet o_oneWidow o_oneTurn o_askWorst o_mayWalk o_oftenAll o_oftenRoad o_oftenPegs hl_o_taped hh_o_taped hl_o_size hh_o_size hl_o_at hh_o_at hl_o_from hh_o_from hl_o_oneTurn hh_o_oneTurn) (cwV 0 hts (gV w_1373 w_1375 wp_85 w_11 w_1376) rfl rfl rfl ⟨rfl, hd_X10_good⟩ ⟨Nat.le_of_ble_eq_true rfl, Nat.le_of_ble_eq_true rfl⟩) (mV hK hZ hP hD [0] rfl rfl [] 0 10 rfl rfl) rfl rfl hl.1 rfl (lv_room (Nat.le_of_ble_eq_true rfl)) dX10_errs_1 ⟨Nat.le_of_ble_eq_true rfl, Nat.le_of_ble_eq_true rfl⟩) (fun r1 u2 H locs hw3 hP hD hS => ?_)
  try dsimp only at hw3
  have hP : va_P G vwCl [(h0, oX10 b o_thrown o_taped o_size o_at o_from o_token o_value o_faultKind o_faultPlace o_lawNow o_walkSet o_oneWidow o_oneTurn o_askWorst o_mayWalk o_oftenAll o_oftenRoad o_oftenPegs)] H := hP
  have hD : va_D A [(h0, oX10 b o_thrown o_taped o_size o_at o_from o_token o_value o_faultKind o_faultPlace o_lawNow o_walkSet o_oneWidow o_oneTurn o_askWorst o_mayWalk o_oftenAll o_oftenRoad o_oftenPegs)] := hD
  rcases hw3 with ⟨rfl, a5⟩ | ⟨rfl, a6⟩
  · skip
    refine lv_if_ne (tgt := 8) hx hb dX10_errs_4 (by decide) (fun c7 => ?_) (fun c7 => absurd c7 (by decide))
    refine lv_aload_n hx hb dX10_errs_8 rfl (lv_at hl 0 rfl) ?_
    refine lv_iload_n hx hb dX10_errs_9 rfl (lv_at hl 1 rfl) ?_
    refine va_put (D := G) (ci := 10) (v := .int p0) (ty := .int) (C := RX10) (T := TX10) (N := 46) hx hb hts iG_X10 tyX10 tyX10_ok nmX10 hown hK hP hD hS 0 rfl rfl 12 (by decide) (hts _ w_1204) (fun _ h9 => h9) rfl (by decide +kernel) rfl rfl (Nat.le_of_ble_eq_true rfl) dX10_errs_10 (fun H locs hP hD hS => ?_)
    have hP : va_P G vwCl [(h0, oX10 b o_thrown o_taped o_size o_at o_from o_token o_value p0 o_faultPlace o_lawNow o_walkSet o_oneWidow o_oneTurn o_askWorst o_mayWalk o_oftenAll o_oftenRoad o_oftenPegs)] H := hP
    have hD : va_D A [(h0, oX10 b o_thrown o_taped o_size o_at o_from o_token o_value p0 o_faultPlace o_lawNow o_walkSet o_oneWidow o_oneTurn o_askWorst o_mayWalk o_oftenAll o_oftenRoad o_oftenPegs)] := hD
    refine lv_aload_n hx hb dX10_errs_13 rfl (lv_at hl 0 rfl) ?_
    refine lv_aload_n hx hb dX10_errs_14 rfl (lv_at hl 0 rfl) ?_
    refine va_get (D := G) (ci := 10) (v := .int o_from) (C := RX10) (T := TX10) (N := 46) hx hb hts iG_X10 hown hK hP 0 rfl rfl 9 (by decide) (hts _ w_1201) (fun _ h9 => h9) rfl dX10_errs_15 ?_
    refine va_put (D := G) (ci := 10) (v := .int o_from) (ty := .int) (C := RX10) (T := TX10) (N := 46) hx hb hts iG_X10 tyX10 tyX10_ok nmX10 hown hK hP hD hS 0 rfl rfl 13 (by decide) (hts _ w_1205) (fun _ h9 => h9) rfl (by decide +kernel) rfl rfl (Nat.le_of_ble_eq_true rfl) dX10_errs_18 (fun H locs hP hD hS => ?_)
    have hP : va_P G vwCl [(h0, oX10 b o_thrown o_taped o_size o_at o_from o_token o_value p0 o_from o_lawNow o_walkSet o_oneWidow o_oneTurn o_askWorst o_mayWalk o_oftenAll o_oftenRoad o_oftenPegs)] H := hP
    have hD : va_D A [(h0, oX10 b o_thrown o_taped o_size o_at o_from o_token o_value p0 o_from o_lawNow o_walkSet o_oneWidow o_oneTurn o_askWorst o_mayWalk o_oftenAll o_oftenRoad o_oftenPegs)] := hD
    exact hret _ _ _ _ (p0, o_from) hP hD hS dX10_errs_21 (show ¬ p0.toInt = 0 from (by omega))
  · skip
    refine lv_if_ne (tgt := 8) hx hb dX10_errs_4 (by decide) (fun c8 => absurd (by decide) c8) (fun c8 => ?_)
    exact hret _ _ _ _ (o_faultKind, o_faultPlace) hP hD hS dX10_errs_7 (show ¬ o_faultKind.toInt = 0 from (by omega))
set_option maxHeartbeats 4000000 in
set_option maxRecDepth 100000 in
theorem f_X10_is (l : Launch) (G : va_G) (cI cJ cZ cB cQ : ClassId) (sz : Nat) (ad : AdS) (fm : Option Nat) (h0 : Nat) (i : Nat) (b : Nat → Nat) (o_thrown : Int32) (o_taped : Int32) (o_size : Int32) (o_at : Int32) (o_from : Int32) (o_token : Int32) (o_value : Int32) (o_faultKind : Int32) (o_faultPlace : Int32) (o_lawNow : Int32) (o_walkSet : Int32) (o_oneWidow : Int32) (o_oneTurn : Int32) (o_askWorst : Int32) (o_mayWalk : Int32) (o_oftenAll : Int64) (o_oftenRoad : Int64) (o_oftenPegs : Int64) (o_f4 : Nat → Int32) (hi_i : i < 34) (hl_o_taped : 0 ≤ o_taped.toInt) (hh_o_taped : o_taped.toInt ≤ 900) (hl_o_size : 0 ≤ o_size.toInt) (hh_o_size : o_size.toInt ≤ 900) (hl_o_at : 0 ≤ o_at.toInt) (hh_o_at : o_at.toInt ≤ 900) (hl_o_from : 0 ≤ o_from.toInt) (hh_o_from : o_from.toInt ≤ 900) (hl_o_oneTurn : 0 ≤ o_oneTurn.toInt) (hh_o_oneTurn : o_oneTurn.toInt ≤ 4) : CIs l yX10_is (wl_ yX10_is cX10_is 4 (some .boolean)) ({ frames := 4, cells := 0, slots := 0, locals := 85 } : Room) G (TY cI cJ cZ cB cQ) [.ref h0, .ref (ad.1 i)] [(h0, oX10 b o_thrown o_taped o_size o_at o_from o_token o_value o_faultKind o_faultPlace o_lawNow o_walkSet o_oneWidow o_oneTurn o_askWorst o_mayWalk o_oftenAll o_oftenRoad o_oftenPegs), (b 4, .inl (cB, 900, .inl o_f4))] sz ad fm (fun (r : Int32) (u : Unit) => ((r = 1 ∧ isP o_faultKind.toInt o_token.toInt o_at.toInt o_from.toInt o_f4 i) ∨ (r = 0 ∧ ¬ isP o_faultKind.toInt o_token.toInt o_at.toInt o_from.toInt o_f4 i))) (fun _ : Unit => [(h0, oX10 b o_thrown o_taped o_size o_at o_from o_token o_value o_faultKind o_faultPlace o_lawNow o_walkSet o_oneWidow o_oneTurn o_askWorst o_mayWalk o_oftenAll o_oftenRoad o_oftenPegs), (b 4, .inl (cB, 900, .inl o_f4))]) 0 0 := by
  refine CIs.gon (cc := cX10_is) (maxL := 4) (ret := (some .boolean)) (by decide) rfl (Nat.le_of_ble_eq_true rfl) ?_
  intro p e s m below meth c A ls Q hBd hE hret
  obtain ⟨hx, hb, hr, hml, hts, hown, hlk, hnm, hP, hK, hD, hA, hZ, hl⟩ := hBd
  have hown : s.vm.findClass RX10 = some m.cls := hown
  have hl : lv_has ls 4 [(0, .ref h0), (1, .ref (ad.1 i))] := hl
  have hS : va_S A s.heap s.heap [] := va_S.rf
  refine lv_aload_n hx hb dX10_is_0 rfl (lv_at hl 0 rfl) ?_
  refine k_i (wc := [(h0, oX10 b o_thrown o_taped o_size o_at o_from o_token o_value o_faultKind o_faultPlace o_lawNow o_walkSet o_oneWidow o_oneTurn o_askWorst o_mayWalk o_oftenAll o_oftenRoad o_oftenPegs)]) (wr := [(b 4, .inl (cB, 900, .inl o_f4))]) hP hD hS hA [0] [1] rfl rfl rfl (by decide) (va_runV (As := []) (rest := []) ⟨hx, hb, hml, hown, hts⟩ (f_X10_good l G cI cJ cZ cB cQ _ h0 b o_thrown o_taped o_size o_at o_from o_token o_value o_faultKind o_faultPlace o_lawNow o_walkSet o_oneWidow o_oneTurn o_askWorst o_mayWalk o_oftenAll o_oftenRoad o_oftenPegs hl_o_taped hh_o_taped hl_o_size hh_o_size hl_o_at hh_o_at hl_o_from hh_o_from hl_o_oneTurn hh_o_oneTurn) (cwV 0 hts (gV w_1373 w_1375 wp_85 w_11 w_1376) rfl rfl rfl ⟨rfl, hd_X10_good⟩ ⟨Nat.le_of_ble_eq_true rfl, Nat.le_of_ble_eq_true rfl⟩) (mV hK hZ hP hD [0] rfl rfl [] 0 10 rfl rfl) rfl rfl hl.1 rfl (lv_room (Nat.le_of_ble_eq_true rfl)) dX10_is_1 ⟨Nat.le_of_ble_eq_true rfl, Nat.le_of_ble_eq_true rfl⟩) (fun r1 u2 H locs hw3 hP hD hS => ?_)
  try dsimp only at hw3
  have hP : va_P G vwCl [(b 4, .inl (cB, 900, .inl o_f4)), (h0, oX10 b o_thrown o_taped o_size o_at o_from o_token o_value o_faultKind o_faultPlace o_lawNow o_walkSet o_oneWidow o_oneTurn o_askWorst o_mayWalk o_oftenAll o_oftenRoad o_oftenPegs)] H := hP
  have hD : va_D A [(b 4, .inl (cB, 900, .inl o_f4)), (h0, oX10 b o_thrown o_taped o_size o_at o_from o_token o_value o_faultKind o_faultPlace o_lawNow o_walkSet o_oneWidow o_oneTurn o_askWorst o_mayWalk o_oftenAll o_oftenRoad o_oftenPegs)] := hD
  rcases hw3 with ⟨rfl, a5⟩ | ⟨rfl, a6⟩
  · skip
    refine lv_if_eq (tgt := 35) hx hb dX10_is_4 (by decide) (fun c7 => absurd c7 (by decide)) (fun c7 => ?_)
    refine lv_aload_n hx hb dX10_is_7 rfl (lv_at hl 0 rfl) ?_
    refine va_get (D := G) (ci := 10) (v := .int o_token) (C := RX10) (T := TX10) (N := 46) hx hb hts iG_X10 hown hK hP 1 rfl rfl 10 (by decide) (hts _ w_1202) (fun _ h9 => h9) rfl dX10_is_8 ?_
    refine lv_iconst (v := 1) hx hb dX10_is_11 (by decide) ?_
    refine lv_icmp_ne (tgt := 35) hx hb dX10_is_12 (by decide) (fun c8 => ?_) (fun c8 => ?_)
    · have c8 := i_ne rfl ki_1 c8
      refine lv_iconst (v := 0) hx hb dX10_is_35 (by decide) ?_
      refine lv_istore_n (lv' := [(2, .int 0), (0, .ref h0), (1, .ref (ad.1 i))]) hx hb dX10_is_36 rfl hl (by decide) rfl (fun ls hl => ?_)
      refine lv_iconst (v := 0) hx hb dX10_is_37 (by decide) ?_
      refine lv_istore_n (lv' := [(3, .int 0), (2, .int 0), (0, .ref h0), (1, .ref (ad.1 i))]) hx hb dX10_is_38 rfl hl (by decide) rfl (fun ls hl => ?_)
      have lp9 : ∀ (n10 : Nat) , ∀ (H : Heap) (locs : List Loc), va_P G vwCl [(b 4, .inl (cB, 900, .inl o_f4)), (h0, oX10 b o_thrown o_taped o_size o_at o_from o_token o_value o_faultKind o_faultPlace o_lawNow o_walkSet o_oneWidow o_oneTurn o_askWorst o_mayWalk o_oftenAll o_oftenRoad o_oftenPegs)] H → va_D A [(b 4, .inl (cB, 900, .inl o_f4)), (h0, oX10 b o_thrown o_taped o_size o_at o_from o_token o_value o_faultKind o_faultPlace o_lawNow o_walkSet o_oneWidow o_oneTurn o_askWorst o_mayWalk o_oftenAll o_oftenRoad o_oftenPegs)] → va_S A s.heap H locs → ∀ (ls : Array Slot), lv_has ls 4 [(3, .int 0), (2, .int 0), (0, .ref h0), (1, .ref (ad.1 i))] → W p l e ({ frames := 4, cells := 0, slots := 0, locals := 85 } : Room) s m ([.ref h0, .ref (ad.1 i)] : List Value).toArray below meth c H locs 0 0 Q (F0 m 39 ls []) := by
        intro n10
        intro  H locs hP hD hS ls hl
        refine lv_iload_n hx hb dX10_is_39 rfl (lv_at hl 0 rfl) ?_
        refine lv_aload_n hx hb dX10_is_40 rfl (lv_at hl 3 rfl) ?_
        refine k_i (wc := []) (wr := [(b 4, .inl (cB, 900, .inl o_f4)), (h0, oX10 b o_thrown o_taped o_size o_at o_from o_token o_value o_faultKind o_faultPlace o_lawNow o_walkSet o_oneWidow o_oneTurn o_askWorst o_mayWalk o_oftenAll o_oftenRoad o_oftenPegs)]) hP hD hS hA [] [0, 1] rfl rfl rfl (by decide) (va_runV (As := []) (rest := [.int 0]) ⟨hx, hb, hml, hown, hts⟩ (f_J0_length_8abf5 l G cI cJ cZ cB cQ _ ad fm i hi_i) (cwV 0 hts (gV w_1398 w_440 w_441 w_12 w_442) rfl rfl rfl ⟨rfl, hd_J0_length_8abf5⟩ ⟨Nat.le_of_ble_eq_true rfl, Nat.le_of_ble_eq_true rfl⟩) (mVk hK hZ hP hD hE hS hA [] rfl rfl [] hi_i) rfl rfl hl.1 rfl (lv_room (Nat.le_of_ble_eq_true rfl)) dX10_is_41 ⟨Nat.le_of_ble_eq_true rfl, Nat.le_of_ble_eq_true rfl⟩) (fun r12 u13 H locs hw14 hP hD hS => ?_)
        try dsimp only at hw14
        have hP : va_P G vwCl [(b 4, .inl (cB, 900, .inl o_f4)), (h0, oX10 b o_thrown o_taped o_size o_at o_from o_token o_value o_faultKind o_faultPlace o_lawNow o_walkSet o_oneWidow o_oneTurn o_askWorst o_mayWalk o_oftenAll o_oftenRoad o_oftenPegs)] H := hP
        have hD : va_D A [(b 4, .inl (cB, 900, .inl o_f4)), (h0, oX10 b o_thrown o_taped o_size o_at o_from o_token o_value o_faultKind o_faultPlace o_lawNow o_walkSet o_oneWidow o_oneTurn o_askWorst o_mayWalk o_oftenAll o_oftenRoad o_oftenPegs)] := hD
        obtain ⟨w15, w16, w17⟩ : 2 ≤ r12.toInt ∧ r12.toInt ≤ 6 ∧ r12.toInt = ((lenS.getD i 0 : Nat) : Int) := hw14
        refine lv_icmp_ge (tgt := 82) hx hb dX10_is_44 (by decide) (fun c18 => absurd (i_le w17 ki_0 c18) (by omega)) (fun c18 => ?_)
        have c18 := i_nle w17 ki_0 c18
        refine lv_iload_n hx hb dX10_is_47 rfl (lv_at hl 1 rfl) ?_
        refine lv_if_eq (tgt := 82) hx hb dX10_is_48 (by decide) (fun c19 => ?_) (fun c19 => absurd (by decide) c19)
        refine lv_iload_n hx hb dX10_is_82 rfl (lv_at hl 1 rfl) ?_
        exact hret _ _ _ _ 0 () (hP.sub (ws' := [(h0, oX10 b o_thrown o_taped o_size o_at o_from o_token o_value o_faultKind o_faultPlace o_lawNow o_walkSet o_oneWidow o_oneTurn o_askWorst o_mayWalk o_oftenAll o_oftenRoad o_oftenPegs), (b 4, .inl (cB, 900, .inl o_f4))]) [1, 0] rfl) (hD.sub (ws' := [(h0, oX10 b o_thrown o_taped o_size o_at o_from o_token o_value o_faultKind o_faultPlace o_lawNow o_walkSet o_oneWidow o_oneTurn o_askWorst o_mayWalk o_oftenAll o_oftenRoad o_oftenPegs), (b 4, .inl (cB, 900, .inl o_f4))]) [1, 0] rfl rfl) hS dX10_is_83 rfl (show (((0 : Int32) = 1 ∧ isP o_faultKind.toInt o_token.toInt o_at.toInt o_from.toInt o_f4 i) ∨ ((0 : Int32) = 0 ∧ ¬ isP o_faultKind.toInt o_token.toInt o_at.toInt o_from.toInt o_f4 i)) from (Or.inr ⟨rfl, fun q9 => by have q1 := q9.1; have q2 := q9.2.1; have q3 := q9.2.2.1; omega⟩))
      exact lp9 1  _ _ hP hD hS ls (lv_sub hl [0, 1, 2, 3] rfl)
    · have c8 := i_eq rfl ki_1 c8
      refine lv_aload_n hx hb dX10_is_15 rfl (lv_at hl 0 rfl) ?_
      refine va_get (D := G) (ci := 10) (v := .int o_at) (C := RX10) (T := TX10) (N := 46) hx hb hts iG_X10 hown hK hP 1 rfl rfl 8 (by decide) (hts _ w_1200) (fun _ h9 => h9) rfl dX10_is_16 ?_
      refine lv_aload_n hx hb dX10_is_19 rfl (lv_at hl 0 rfl) ?_
      refine va_get (D := G) (ci := 10) (v := .int o_from) (C := RX10) (T := TX10) (N := 46) hx hb hts iG_X10 hown hK hP 1 rfl rfl 9 (by decide) (hts _ w_1201) (fun _ h9 => h9) rfl dX10_is_20 ?_
      refine lv_isub hx hb dX10_is_23 ?_
      refine lv_topi (fun v20 ev20 => ?_)
      have tv20 : v20.toInt = o_at.toInt - o_from.toInt := ti_sub rfl rfl ev20 (by omega) (by omega)
      refine lv_aload_n hx hb dX10_is_24 rfl (lv_at hl 1 rfl) ?_
      refine k_i (wc := []) (wr := [(b 4, .inl (cB, 900, .inl o_f4)), (h0, oX10 b o_thrown o_taped o_size o_at o_from o_token o_value o_faultKind o_faultPlace o_lawNow o_walkSet o_oneWidow o_oneTurn o_askWorst o_mayWalk o_oftenAll o_oftenRoad o_oftenPegs)]) hP hD hS hA [] [0, 1] rfl rfl rfl (by decide) (va_runV (As := []) (rest := [.int v20]) ⟨hx, hb, hml, hown, hts⟩ (f_J0_length_8abf5 l G cI cJ cZ cB cQ _ ad fm i hi_i) (cwV 0 hts (gV w_1398 w_440 w_441 w_12 w_442) rfl rfl rfl ⟨rfl, hd_J0_length_8abf5⟩ ⟨Nat.le_of_ble_eq_true rfl, Nat.le_of_ble_eq_true rfl⟩) (mVk hK hZ hP hD hE hS hA [] rfl rfl [] hi_i) rfl rfl hl.1 rfl (lv_room (Nat.le_of_ble_eq_true rfl)) dX10_is_25 ⟨Nat.le_of_ble_eq_true rfl, Nat.le_of_ble_eq_true rfl⟩) (fun r21 u22 H locs hw23 hP hD hS => ?_)
      try dsimp only at hw23
      have hP : va_P G vwCl [(b 4, .inl (cB, 900, .inl o_f4)), (h0, oX10 b o_thrown o_taped o_size o_at o_from o_token o_value o_faultKind o_faultPlace o_lawNow o_walkSet o_oneWidow o_oneTurn o_askWorst o_mayWalk o_oftenAll o_oftenRoad o_oftenPegs)] H := hP
      have hD : va_D A [(b 4, .inl (cB, 900, .inl o_f4)), (h0, oX10 b o_thrown o_taped o_size o_at o_from o_token o_value o_faultKind o_faultPlace o_lawNow o_walkSet o_oneWidow o_oneTurn o_askWorst o_mayWalk o_oftenAll o_oftenRoad o_oftenPegs)] := hD
      obtain ⟨w24, w25, w26⟩ : 2 ≤ r21.toInt ∧ r21.toInt ≤ 6 ∧ r21.toInt = ((lenS.getD i 0 : Nat) : Int) := hw23
      refine lv_icmp_ne (tgt := 35) hx hb dX10_is_28 (by decide) (fun c27 => ?_) (fun c27 => ?_)
      · have c27 := i_ne tv20 w26 c27
        refine lv_iconst (v := 0) hx hb dX10_is_35 (by decide) ?_
        refine lv_istore_n (lv' := [(2, .int 0), (0, .ref h0), (1, .ref (ad.1 i))]) hx hb dX10_is_36 rfl hl (by decide) rfl (fun ls hl => ?_)
        refine lv_iconst (v := 0) hx hb dX10_is_37 (by decide) ?_
        refine lv_istore_n (lv' := [(3, .int 0), (2, .int 0), (0, .ref h0), (1, .ref (ad.1 i))]) hx hb dX10_is_38 rfl hl (by decide) rfl (fun ls hl => ?_)
        have lp28 : ∀ (n29 : Nat) , ∀ (H : Heap) (locs : List Loc), va_P G vwCl [(b 4, .inl (cB, 900, .inl o_f4)), (h0, oX10 b o_thrown o_taped o_size o_at o_from o_token o_value o_faultKind o_faultPlace o_lawNow o_walkSet o_oneWidow o_oneTurn o_askWorst o_mayWalk o_oftenAll o_oftenRoad o_oftenPegs)] H → va_D A [(b 4, .inl (cB, 900, .inl o_f4)), (h0, oX10 b o_thrown o_taped o_size o_at o_from o_token o_value o_faultKind o_faultPlace o_lawNow o_walkSet o_oneWidow o_oneTurn o_askWorst o_mayWalk o_oftenAll o_oftenRoad o_oftenPegs)] → va_S A s.heap H locs → ∀ (ls : Array Slot), lv_has ls 4 [(3, .int 0), (2, .int 0), (0, .ref h0), (1, .ref (ad.1 i))] → W p l e ({ frames := 4, cells := 0, slots := 0, locals := 85 } : Room) s m ([.ref h0, .ref (ad.1 i)] : List Value).toArray below meth c H locs 0 0 Q (F0 m 39 ls []) := by
          intro n29
          intro  H locs hP hD hS ls hl
          refine lv_iload_n hx hb dX10_is_39 rfl (lv_at hl 0 rfl) ?_
          refine lv_aload_n hx hb dX10_is_40 rfl (lv_at hl 3 rfl) ?_
          refine k_i (wc := []) (wr := [(b 4, .inl (cB, 900, .inl o_f4)), (h0, oX10 b o_thrown o_taped o_size o_at o_from o_token o_value o_faultKind o_faultPlace o_lawNow o_walkSet o_oneWidow o_oneTurn o_askWorst o_mayWalk o_oftenAll o_oftenRoad o_oftenPegs)]) hP hD hS hA [] [0, 1] rfl rfl rfl (by decide) (va_runV (As := []) (rest := [.int 0]) ⟨hx, hb, hml, hown, hts⟩ (f_J0_length_8abf5 l G cI cJ cZ cB cQ _ ad fm i hi_i) (cwV 0 hts (gV w_1398 w_440 w_441 w_12 w_442) rfl rfl rfl ⟨rfl, hd_J0_length_8abf5⟩ ⟨Nat.le_of_ble_eq_true rfl, Nat.le_of_ble_eq_true rfl⟩) (mVk hK hZ hP hD hE hS hA [] rfl rfl [] hi_i) rfl rfl hl.1 rfl (lv_room (Nat.le_of_ble_eq_true rfl)) dX10_is_41 ⟨Nat.le_of_ble_eq_true rfl, Nat.le_of_ble_eq_true rfl⟩) (fun r31 u32 H locs hw33 hP hD hS => ?_)
          try dsimp only at hw33
          have hP : va_P G vwCl [(b 4, .inl (cB, 900, .inl o_f4)), (h0, oX10 b o_thrown o_taped o_size o_at o_from o_token o_value o_faultKind o_faultPlace o_lawNow o_walkSet o_oneWidow o_oneTurn o_askWorst o_mayWalk o_oftenAll o_oftenRoad o_oftenPegs)] H := hP
          have hD : va_D A [(b 4, .inl (cB, 900, .inl o_f4)), (h0, oX10 b o_thrown o_taped o_size o_at o_from o_token o_value o_faultKind o_faultPlace o_lawNow o_walkSet o_oneWidow o_oneTurn o_askWorst o_mayWalk o_oftenAll o_oftenRoad o_oftenPegs)] := hD
          obtain ⟨w34, w35, w36⟩ : 2 ≤ r31.toInt ∧ r31.toInt ≤ 6 ∧ r31.toInt = ((lenS.getD i 0 : Nat) : Int) := hw33
          refine lv_icmp_ge (tgt := 82) hx hb dX10_is_44 (by decide) (fun c37 => absurd (i_le w36 ki_0 c37) (by omega)) (fun c37 => ?_)
          have c37 := i_nle w36 ki_0 c37
          refine lv_iload_n hx hb dX10_is_47 rfl (lv_at hl 1 rfl) ?_
          refine lv_if_eq (tgt := 82) hx hb dX10_is_48 (by decide) (fun c38 => ?_) (fun c38 => absurd (by decide) c38)
          refine lv_iload_n hx hb dX10_is_82 rfl (lv_at hl 1 rfl) ?_
          exact hret _ _ _ _ 0 () (hP.sub (ws' := [(h0, oX10 b o_thrown o_taped o_size o_at o_from o_token o_value o_faultKind o_faultPlace o_lawNow o_walkSet o_oneWidow o_oneTurn o_askWorst o_mayWalk o_oftenAll o_oftenRoad o_oftenPegs), (b 4, .inl (cB, 900, .inl o_f4))]) [1, 0] rfl) (hD.sub (ws' := [(h0, oX10 b o_thrown o_taped o_size o_at o_from o_token o_value o_faultKind o_faultPlace o_lawNow o_walkSet o_oneWidow o_oneTurn o_askWorst o_mayWalk o_oftenAll o_oftenRoad o_oftenPegs), (b 4, .inl (cB, 900, .inl o_f4))]) [1, 0] rfl rfl) hS dX10_is_83 rfl (show (((0 : Int32) = 1 ∧ isP o_faultKind.toInt o_token.toInt o_at.toInt o_from.toInt o_f4 i) ∨ ((0 : Int32) = 0 ∧ ¬ isP o_faultKind.toInt o_token.toInt o_at.toInt o_from.toInt o_f4 i)) from (Or.inr ⟨rfl, fun q9 => by have q1 := q9.1; have q2 := q9.2.1; have q3 := q9.2.2.1; omega⟩))
        exact lp28 1  _ _ hP hD hS ls (lv_sub hl [0, 1, 2, 3] rfl)
      · have c27 := i_eq tv20 w26 c27
        refine lv_iconst (v := 1) hx hb dX10_is_31 (by decide) ?_
        refine lv_goto (tgt := 36) hx hb dX10_is_32 (by decide) ?_
        refine lv_istore_n (lv' := [(2, .int 1), (0, .ref h0), (1, .ref (ad.1 i))]) hx hb dX10_is_36 rfl hl (by decide) rfl (fun ls hl => ?_)
        refine lv_iconst (v := 0) hx hb dX10_is_37 (by decide) ?_
        refine lv_istore_n (lv' := [(3, .int 0), (2, .int 1), (0, .ref h0), (1, .ref (ad.1 i))]) hx hb dX10_is_38 rfl hl (by decide) rfl (fun ls hl => ?_)
        have lp39 : ∀ (n40 : Nat) (x41 : Int32) (x42 : Int32), 0 ≤ x41.toInt → x41.toInt ≤ 1 → 0 ≤ x42.toInt → x42.toInt ≤ 6 → IT (isP o_faultKind.toInt o_token.toInt o_at.toInt o_from.toInt o_f4 i) x41 o_f4 o_from.toInt i x42.toInt → 6 - x42.toInt < (n40 : Int) → ∀ (H : Heap) (locs : List Loc), va_P G vwCl [(b 4, .inl (cB, 900, .inl o_f4)), (h0, oX10 b o_thrown o_taped o_size o_at o_from o_token o_value o_faultKind o_faultPlace o_lawNow o_walkSet o_oneWidow o_oneTurn o_askWorst o_mayWalk o_oftenAll o_oftenRoad o_oftenPegs)] H → va_D A [(b 4, .inl (cB, 900, .inl o_f4)), (h0, oX10 b o_thrown o_taped o_size o_at o_from o_token o_value o_faultKind o_faultPlace o_lawNow o_walkSet o_oneWidow o_oneTurn o_askWorst o_mayWalk o_oftenAll o_oftenRoad o_oftenPegs)] → va_S A s.heap H locs → ∀ (ls : Array Slot), lv_has ls 4 [(3, .int x42), (2, .int x41), (0, .ref h0), (1, .ref (ad.1 i))] → W p l e ({ frames := 4, cells := 0, slots := 0, locals := 85 } : Room) s m ([.ref h0, .ref (ad.1 i)] : List Value).toArray below meth c H locs 0 0 Q (F0 m 39 ls []) := by
          intro n40
          induction n40 with
          | zero =>
            intro x41 x42 k43 k44 k45 k46 it46 mm48
            exact absurd mm48 (by have q9 := fb_rng x42; omega)
          | succ n40 ih47 =>
            intro x41 x42 k43 k44 k45 k46 it46 mm48 H locs hP hD hS ls hl
            refine lv_iload_n hx hb dX10_is_39 rfl (lv_at hl 0 rfl) ?_
            refine lv_aload_n hx hb dX10_is_40 rfl (lv_at hl 3 rfl) ?_
            refine k_i (wc := []) (wr := [(b 4, .inl (cB, 900, .inl o_f4)), (h0, oX10 b o_thrown o_taped o_size o_at o_from o_token o_value o_faultKind o_faultPlace o_lawNow o_walkSet o_oneWidow o_oneTurn o_askWorst o_mayWalk o_oftenAll o_oftenRoad o_oftenPegs)]) hP hD hS hA [] [0, 1] rfl rfl rfl (by decide) (va_runV (As := []) (rest := [.int x42]) ⟨hx, hb, hml, hown, hts⟩ (f_J0_length_8abf5 l G cI cJ cZ cB cQ _ ad fm i hi_i) (cwV 0 hts (gV w_1398 w_440 w_441 w_12 w_442) rfl rfl rfl ⟨rfl, hd_J0_length_8abf5⟩ ⟨Nat.le_of_ble_eq_true rfl, Nat.le_of_ble_eq_true rfl⟩) (mVk hK hZ hP hD hE hS hA [] rfl rfl [] hi_i) rfl rfl hl.1 rfl (lv_room (Nat.le_of_ble_eq_true rfl)) dX10_is_41 ⟨Nat.le_of_ble_eq_true rfl, Nat.le_of_ble_eq_true rfl⟩) (fun r49 u50 H locs hw51 hP hD hS => ?_)
            try dsimp only at hw51
            have hP : va_P G vwCl [(b 4, .inl (cB, 900, .inl o_f4)), (h0, oX10 b o_thrown o_taped o_size o_at o_from o_token o_value o_faultKind o_faultPlace o_lawNow o_walkSet o_oneWidow o_oneTurn o_askWorst o_mayWalk o_oftenAll o_oftenRoad o_oftenPegs)] H := hP
            have hD : va_D A [(b 4, .inl (cB, 900, .inl o_f4)), (h0, oX10 b o_thrown o_taped o_size o_at o_from o_token o_value o_faultKind o_faultPlace o_lawNow o_walkSet o_oneWidow o_oneTurn o_askWorst o_mayWalk o_oftenAll o_oftenRoad o_oftenPegs)] := hD
            obtain ⟨w52, w53, w54⟩ : 2 ≤ r49.toInt ∧ r49.toInt ≤ 6 ∧ r49.toInt = ((lenS.getD i 0 : Nat) : Int) := hw51
            refine lv_icmp_ge (tgt := 82) hx hb dX10_is_44 (by decide) (fun c55 => ?_) (fun c55 => ?_)
            · have c55 := i_le w54 rfl c55
              refine lv_iload_n hx hb dX10_is_82 rfl (lv_at hl 1 rfl) ?_
              exact hret _ _ _ _ x41 () (hP.sub (ws' := [(h0, oX10 b o_thrown o_taped o_size o_at o_from o_token o_value o_faultKind o_faultPlace o_lawNow o_walkSet o_oneWidow o_oneTurn o_askWorst o_mayWalk o_oftenAll o_oftenRoad o_oftenPegs), (b 4, .inl (cB, 900, .inl o_f4))]) [1, 0] rfl) (hD.sub (ws' := [(h0, oX10 b o_thrown o_taped o_size o_at o_from o_token o_value o_faultKind o_faultPlace o_lawNow o_walkSet o_oneWidow o_oneTurn o_askWorst o_mayWalk o_oftenAll o_oftenRoad o_oftenPegs), (b 4, .inl (cB, 900, .inl o_f4))]) [1, 0] rfl rfl) hS dX10_is_83 (nar_z k43 k44) (show ((x41 = 1 ∧ isP o_faultKind.toInt o_token.toInt o_at.toInt o_from.toInt o_f4 i) ∨ (x41 = 0 ∧ ¬ isP o_faultKind.toInt o_token.toInt o_at.toInt o_from.toInt o_f4 i)) from (by first | exact IT_end it46 (by omega) (by omega) (by omega) (by omega) | exact IT_brk it46 (by omega)))
            · have c55 := i_nle w54 rfl c55
              refine lv_iload_n hx hb dX10_is_47 rfl (lv_at hl 1 rfl) ?_
              refine lv_if_eq (tgt := 82) hx hb dX10_is_48 (by decide) (fun c56 => ?_) (fun c56 => ?_)
              · have c56 := i_eq rfl ki_0 c56
                refine lv_iload_n hx hb dX10_is_82 rfl (lv_at hl 1 rfl) ?_
                exact hret _ _ _ _ x41 () (hP.sub (ws' := [(h0, oX10 b o_thrown o_taped o_size o_at o_from o_token o_value o_faultKind o_faultPlace o_lawNow o_walkSet o_oneWidow o_oneTurn o_askWorst o_mayWalk o_oftenAll o_oftenRoad o_oftenPegs), (b 4, .inl (cB, 900, .inl o_f4))]) [1, 0] rfl) (hD.sub (ws' := [(h0, oX10 b o_thrown o_taped o_size o_at o_from o_token o_value o_faultKind o_faultPlace o_lawNow o_walkSet o_oneWidow o_oneTurn o_askWorst o_mayWalk o_oftenAll o_oftenRoad o_oftenPegs), (b 4, .inl (cB, 900, .inl o_f4))]) [1, 0] rfl rfl) hS dX10_is_83 (nar_z k43 (by omega)) (show ((x41 = 1 ∧ isP o_faultKind.toInt o_token.toInt o_at.toInt o_from.toInt o_f4 i) ∨ (x41 = 0 ∧ ¬ isP o_faultKind.toInt o_token.toInt o_at.toInt o_from.toInt o_f4 i)) from (by first | exact IT_end it46 (by omega) (by omega) (by omega) (by omega) | exact IT_brk it46 (by omega)))
              · have c56 := i_ne rfl ki_0 c56
                refine lv_aload_n hx hb dX10_is_51 rfl (lv_at hl 2 rfl) ?_
                refine va_get (D := G) (ci := 10) (v := .ref (b 4)) (C := RX10) (T := TX10) (N := 46) hx hb hts iG_X10 hown hK hP 1 rfl rfl 4 (by decide) (hts _ w_1196) (fun _ h9 => h9) rfl dX10_is_52 ?_
                refine lv_aload_n hx hb dX10_is_55 rfl (lv_at hl 2 rfl) ?_
                refine va_get (D := G) (ci := 10) (v := .int o_from) (C := RX10) (T := TX10) (N := 46) hx hb hts iG_X10 hown hK hP 1 rfl rfl 9 (by decide) (hts _ w_1201) (fun _ h9 => h9) rfl dX10_is_56 ?_
                refine lv_iload_n hx hb dX10_is_59 rfl (lv_at hl 0 rfl) ?_
                refine lv_iadd hx hb dX10_is_60 ?_
                refine lv_topi (fun v57 ev57 => ?_)
                have tv57 : v57.toInt = o_from.toInt + x42.toInt := ti_add rfl rfl ev57 (by omega) (by omega)
                refine va_bald hx hb hK hP 0 3 rfl rfl (ix_in tv57 (by omega) (by omega)) dX10_is_61 ?_
                refine lv_topi (fun v58 ev58 => ?_)
                refine lv_aload_n hx hb dX10_is_62 rfl (lv_at hl 3 rfl) ?_
                refine lv_iload_n hx hb dX10_is_63 rfl (lv_at hl 0 rfl) ?_
                refine k_i (wc := []) (wr := [(b 4, .inl (cB, 900, .inl o_f4)), (h0, oX10 b o_thrown o_taped o_size o_at o_from o_token o_value o_faultKind o_faultPlace o_lawNow o_walkSet o_oneWidow o_oneTurn o_askWorst o_mayWalk o_oftenAll o_oftenRoad o_oftenPegs)]) hP hD hS hA [] [0, 1] rfl rfl rfl (by decide) (va_runV (As := [.int x42]) (rest := [.int v58]) ⟨hx, hb, hml, hown, hts⟩ (f_J0_charAt_5068e l G cI cJ cZ cB cQ _ ad fm i x42 hi_i k45 (by omega)) (cwV 1 hts (gV w_1399 w_450 w_451 w_12 w_452) rfl rfl rfl ⟨rfl, hd_J0_charAt_5068e⟩ ⟨Nat.le_of_ble_eq_true rfl, Nat.le_of_ble_eq_true rfl⟩) (mVk hK hZ hP hD hE hS hA [] rfl rfl [.int x42] hi_i) rfl rfl hl.1 rfl (lv_room (Nat.le_of_ble_eq_true rfl)) dX10_is_64 ⟨Nat.le_of_ble_eq_true rfl, Nat.le_of_ble_eq_true rfl⟩) (fun r59 u60 H locs hw61 hP hD hS => ?_)
                try dsimp only at hw61
                have hP : va_P G vwCl [(b 4, .inl (cB, 900, .inl o_f4)), (h0, oX10 b o_thrown o_taped o_size o_at o_from o_token o_value o_faultKind o_faultPlace o_lawNow o_walkSet o_oneWidow o_oneTurn o_askWorst o_mayWalk o_oftenAll o_oftenRoad o_oftenPegs)] H := hP
                have hD : va_D A [(b 4, .inl (cB, 900, .inl o_f4)), (h0, oX10 b o_thrown o_taped o_size o_at o_from o_token o_value o_faultKind o_faultPlace o_lawNow o_walkSet o_oneWidow o_oneTurn o_askWorst o_mayWalk o_oftenAll o_oftenRoad o_oftenPegs)] := hD
                have w62 : r59 = chS i x42.toNatClampNeg := hw61
                refine lv_icmp_ne (tgt := 74) hx hb dX10_is_67 (by decide) (fun c63 => ?_) (fun c63 => ?_)
                · have c63 := i_ne rfl rfl c63
                  refine lv_iconst (v := 0) hx hb dX10_is_74 (by decide) ?_
                  refine lv_istore_n (lv' := [(2, .int 0), (3, .int x42), (0, .ref h0), (1, .ref (ad.1 i))]) hx hb dX10_is_75 rfl hl (by decide) rfl (fun ls hl => ?_)
                  obtain ⟨v64, ev64⟩ : ∃ y : Int32, y = x42 + 1 := ⟨_, rfl⟩
                  have tv64 : v64.toInt = x42.toInt + 1 := ti_add rfl ki_1 ev64 (by omega) (by omega)
                  refine lv_iinc (v := v64) (lv' := [(3, .int v64), (2, .int 0), (0, .ref h0), (1, .ref (ad.1 i))]) hx hb dX10_is_76 hl (k := 1) rfl (by rw [ev64]; rfl) (by decide) rfl (fun ls hl => ?_)
                  refine lv_goto (tgt := 39) hx hb dX10_is_79 (by decide) ?_
                  exact ih47 0 v64 (by rw [ki_0]; decide) (by rw [ki_0]; decide) (by omega) (by omega) (IT_ne tv57 (by omega) (by omega) (by omega) (by omega) ev58 rfl w62 (by omega)) (by omega) _ _ hP hD hS ls (lv_sub hl [0, 1, 2, 3] rfl)
                · have c63 := i_eq rfl rfl c63
                  refine lv_iconst (v := 1) hx hb dX10_is_70 (by decide) ?_
                  refine lv_goto (tgt := 75) hx hb dX10_is_71 (by decide) ?_
                  refine lv_istore_n (lv' := [(2, .int 1), (3, .int x42), (0, .ref h0), (1, .ref (ad.1 i))]) hx hb dX10_is_75 rfl hl (by decide) rfl (fun ls hl => ?_)
                  obtain ⟨v65, ev65⟩ : ∃ y : Int32, y = x42 + 1 := ⟨_, rfl⟩
                  have tv65 : v65.toInt = x42.toInt + 1 := ti_add rfl ki_1 ev65 (by omega) (by omega)
                  refine lv_iinc (v := v65) (lv' := [(3, .int v65), (2, .int 1), (0, .ref h0), (1, .ref (ad.1 i))]) hx hb dX10_is_76 hl (k := 1) rfl (by rw [ev65]; rfl) (by decide) rfl (fun ls hl => ?_)
                  refine lv_goto (tgt := 39) hx hb dX10_is_79 (by decide) ?_
                  exact ih47 1 v65 (by rw [ki_1]; decide) (by rw [ki_1]; decide) (by omega) (by omega) (IT_eq it46 (by omega) tv57 (by omega) (by omega) (by omega) ev58 rfl w62 (by omega) (by omega)) (by omega) _ _ hP hD hS ls (lv_sub hl [0, 1, 2, 3] rfl)
        exact lp39 7 1 0 (by rw [ki_1]; decide) (by rw [ki_1]; decide) (by rw [ki_0]; decide) (by rw [ki_0]; decide) IT_0 (by rw [ki_0]; decide) _ _ hP hD hS ls (lv_sub hl [0, 1, 2, 3] rfl)
  · skip
    refine lv_if_eq (tgt := 35) hx hb dX10_is_4 (by decide) (fun c66 => ?_) (fun c66 => absurd (by decide) c66)
    refine lv_iconst (v := 0) hx hb dX10_is_35 (by decide) ?_
    refine lv_istore_n (lv' := [(2, .int 0), (0, .ref h0), (1, .ref (ad.1 i))]) hx hb dX10_is_36 rfl hl (by decide) rfl (fun ls hl => ?_)
    refine lv_iconst (v := 0) hx hb dX10_is_37 (by decide) ?_
    refine lv_istore_n (lv' := [(3, .int 0), (2, .int 0), (0, .ref h0), (1, .ref (ad.1 i))]) hx hb dX10_is_38 rfl hl (by decide) rfl (fun ls hl => ?_)
    have lp67 : ∀ (n68 : Nat) , ∀ (H : Heap) (locs : List Loc), va_P G vwCl [(b 4, .inl (cB, 900, .inl o_f4)), (h0, oX10 b o_thrown o_taped o_size o_at o_from o_token o_value o_faultKind o_faultPlace o_lawNow o_walkSet o_oneWidow o_oneTurn o_askWorst o_mayWalk o_oftenAll o_oftenRoad o_oftenPegs)] H → va_D A [(b 4, .inl (cB, 900, .inl o_f4)), (h0, oX10 b o_thrown o_taped o_size o_at o_from o_token o_value o_faultKind o_faultPlace o_lawNow o_walkSet o_oneWidow o_oneTurn o_askWorst o_mayWalk o_oftenAll o_oftenRoad o_oftenPegs)] → va_S A s.heap H locs → ∀ (ls : Array Slot), lv_has ls 4 [(3, .int 0), (2, .int 0), (0, .ref h0), (1, .ref (ad.1 i))] → W p l e ({ frames := 4, cells := 0, slots := 0, locals := 85 } : Room) s m ([.ref h0, .ref (ad.1 i)] : List Value).toArray below meth c H locs 0 0 Q (F0 m 39 ls []) := by
      intro n68
      intro  H locs hP hD hS ls hl
      refine lv_iload_n hx hb dX10_is_39 rfl (lv_at hl 0 rfl) ?_
      refine lv_aload_n hx hb dX10_is_40 rfl (lv_at hl 3 rfl) ?_
      refine k_i (wc := []) (wr := [(b 4, .inl (cB, 900, .inl o_f4)), (h0, oX10 b o_thrown o_taped o_size o_at o_from o_token o_value o_faultKind o_faultPlace o_lawNow o_walkSet o_oneWidow o_oneTurn o_askWorst o_mayWalk o_oftenAll o_oftenRoad o_oftenPegs)]) hP hD hS hA [] [0, 1] rfl rfl rfl (by decide) (va_runV (As := []) (rest := [.int 0]) ⟨hx, hb, hml, hown, hts⟩ (f_J0_length_8abf5 l G cI cJ cZ cB cQ _ ad fm i hi_i) (cwV 0 hts (gV w_1398 w_440 w_441 w_12 w_442) rfl rfl rfl ⟨rfl, hd_J0_length_8abf5⟩ ⟨Nat.le_of_ble_eq_true rfl, Nat.le_of_ble_eq_true rfl⟩) (mVk hK hZ hP hD hE hS hA [] rfl rfl [] hi_i) rfl rfl hl.1 rfl (lv_room (Nat.le_of_ble_eq_true rfl)) dX10_is_41 ⟨Nat.le_of_ble_eq_true rfl, Nat.le_of_ble_eq_true rfl⟩) (fun r70 u71 H locs hw72 hP hD hS => ?_)
      try dsimp only at hw72
      have hP : va_P G vwCl [(b 4, .inl (cB, 900, .inl o_f4)), (h0, oX10 b o_thrown o_taped o_size o_at o_from o_token o_value o_faultKind o_faultPlace o_lawNow o_walkSet o_oneWidow o_oneTurn o_askWorst o_mayWalk o_oftenAll o_oftenRoad o_oftenPegs)] H := hP
      have hD : va_D A [(b 4, .inl (cB, 900, .inl o_f4)), (h0, oX10 b o_thrown o_taped o_size o_at o_from o_token o_value o_faultKind o_faultPlace o_lawNow o_walkSet o_oneWidow o_oneTurn o_askWorst o_mayWalk o_oftenAll o_oftenRoad o_oftenPegs)] := hD
      obtain ⟨w73, w74, w75⟩ : 2 ≤ r70.toInt ∧ r70.toInt ≤ 6 ∧ r70.toInt = ((lenS.getD i 0 : Nat) : Int) := hw72
      refine lv_icmp_ge (tgt := 82) hx hb dX10_is_44 (by decide) (fun c76 => absurd (i_le w75 ki_0 c76) (by omega)) (fun c76 => ?_)
      have c76 := i_nle w75 ki_0 c76
      refine lv_iload_n hx hb dX10_is_47 rfl (lv_at hl 1 rfl) ?_
      refine lv_if_eq (tgt := 82) hx hb dX10_is_48 (by decide) (fun c77 => ?_) (fun c77 => absurd (by decide) c77)
      refine lv_iload_n hx hb dX10_is_82 rfl (lv_at hl 1 rfl) ?_
      exact hret _ _ _ _ 0 () (hP.sub (ws' := [(h0, oX10 b o_thrown o_taped o_size o_at o_from o_token o_value o_faultKind o_faultPlace o_lawNow o_walkSet o_oneWidow o_oneTurn o_askWorst o_mayWalk o_oftenAll o_oftenRoad o_oftenPegs), (b 4, .inl (cB, 900, .inl o_f4))]) [1, 0] rfl) (hD.sub (ws' := [(h0, oX10 b o_thrown o_taped o_size o_at o_from o_token o_value o_faultKind o_faultPlace o_lawNow o_walkSet o_oneWidow o_oneTurn o_askWorst o_mayWalk o_oftenAll o_oftenRoad o_oftenPegs), (b 4, .inl (cB, 900, .inl o_f4))]) [1, 0] rfl rfl) hS dX10_is_83 rfl (show (((0 : Int32) = 1 ∧ isP o_faultKind.toInt o_token.toInt o_at.toInt o_from.toInt o_f4 i) ∨ ((0 : Int32) = 0 ∧ ¬ isP o_faultKind.toInt o_token.toInt o_at.toInt o_from.toInt o_f4 i)) from (Or.inr ⟨rfl, fun q9 => by have q1 := q9.1; have q2 := q9.2.1; have q3 := q9.2.2.1; omega⟩))
    exact lp67 1  _ _ hP hD hS ls (lv_sub hl [0, 1, 2, 3] rfl)
set_option maxHeartbeats 4000000 in
set_option maxRecDepth 100000 in
theorem f_X10_takes (l : Launch) (G : va_G) (cI cJ cZ cB cQ : ClassId) (sz : Nat) (ad : AdS) (fm : Option Nat) (h0 : Nat) (i : Nat) (b : Nat → Nat) (o_thrown : Int32) (o_taped : Int32) (o_size : Int32) (o_at : Int32) (o_from : Int32) (o_token : Int32) (o_value : Int32) (o_faultKind : Int32) (o_faultPlace : Int32) (o_lawNow : Int32) (o_walkSet : Int32) (o_oneWidow : Int32) (o_oneTurn : Int32) (o_askWorst : Int32) (o_mayWalk : Int32) (o_oftenAll : Int64) (o_oftenRoad : Int64) (o_oftenPegs : Int64) (o_f4 : Nat → Int32) (hi_i : i < 34) (hl_o_taped : 0 ≤ o_taped.toInt) (hh_o_taped : o_taped.toInt ≤ 900) (hl_o_size : 0 ≤ o_size.toInt) (hh_o_size : o_size.toInt ≤ 900) (hl_o_at : 0 ≤ o_at.toInt) (hh_o_at : o_at.toInt ≤ 900) (hl_o_from : 0 ≤ o_from.toInt) (hh_o_from : o_from.toInt ≤ 900) (hl_o_oneTurn : 0 ≤ o_oneTurn.toInt) (hh_o_oneTurn : o_oneTurn.toInt ≤ 4) : CIs l yX10_takes (wl_ yX10_takes cX10_takes 3 (some .boolean)) ({ frames := 5, cells := 0, slots := 0, locals := 108 } : Room) G (TY cI cJ cZ cB cQ) [.ref h0, .ref (ad.1 i)] [(h0, oX10 b o_thrown o_taped o_size o_at o_from o_token o_value o_faultKind o_faultPlace o_lawNow o_walkSet o_oneWidow o_oneTurn o_askWorst o_mayWalk o_oftenAll o_oftenRoad o_oftenPegs), (b 4, .inl (cB, 900, .inl o_f4))] sz ad fm (fun (r : Int32) (u : Int32 × Int32 × Int32 × Int32) => ((r = 1 ∧ isP o_faultKind.toInt o_token.toInt o_at.toInt o_from.toInt o_f4 i ∧ o_at.toInt ≤ u.2.1.toInt ∧ u.2.1.toInt ≤ u.1.toInt ∧ (u.2.2.1.toInt = 0 ∨ u.2.1.toInt < u.1.toInt)) ∨ (r = 0 ∧ ¬ isP o_faultKind.toInt o_token.toInt o_at.toInt o_from.toInt o_f4 i ∧ o_at = u.1 ∧ o_from = u.2.1 ∧ o_token = u.2.2.1 ∧ o_value = u.2.2.2)) ∧ 0 ≤ u.1.toInt ∧ u.1.toInt ≤ 900 ∧ 0 ≤ u.2.1.toInt ∧ u.2.1.toInt ≤ 900) (fun u : Int32 × Int32 × Int32 × Int32 => [(h0, oX10 b o_thrown o_taped o_size u.1 u.2.1 u.2.2.1 u.2.2.2 o_faultKind o_faultPlace o_lawNow o_walkSet o_oneWidow o_oneTurn o_askWorst o_mayWalk o_oftenAll o_oftenRoad o_oftenPegs), (b 4, .inl (cB, 900, .inl o_f4))]) 0 0 := by
  refine CIs.gon (cc := cX10_takes) (maxL := 3) (ret := (some .boolean)) (by decide) rfl (Nat.le_of_ble_eq_true rfl) ?_
  intro p e s m below meth c A ls Q hBd hE hret
  obtain ⟨hx, hb, hr, hml, hts, hown, hlk, hnm, hP, hK, hD, hA, hZ, hl⟩ := hBd
  have hown : s.vm.findClass RX10 = some m.cls := hown
  have hl : lv_has ls 3 [(0, .ref h0), (1, .ref (ad.1 i))] := hl
  have hS : va_S A s.heap s.heap [] := va_S.rf
  refine lv_aload_n hx hb dX10_takes_0 rfl (lv_at hl 0 rfl) ?_
  refine lv_aload_n hx hb dX10_takes_1 rfl (lv_at hl 1 rfl) ?_
  refine k_i (wc := [(h0, oX10 b o_thrown o_taped o_size o_at o_from o_token o_value o_faultKind o_faultPlace o_lawNow o_walkSet o_oneWidow o_oneTurn o_askWorst o_mayWalk o_oftenAll o_oftenRoad o_oftenPegs), (b 4, .inl (cB, 900, .inl o_f4))]) (wr := []) hP hD hS hA [0, 1] [] rfl rfl rfl (by decide) (va_runV (As := [.ref (ad.1 i)]) (rest := []) ⟨hx, hb, hml, hown, hts⟩ (f_X10_is l G cI cJ cZ cB cQ _ ad fm h0 i b o_thrown o_taped o_size o_at o_from o_token o_value o_faultKind o_faultPlace o_lawNow o_walkSet o_oneWidow o_oneTurn o_askWorst o_mayWalk o_oftenAll o_oftenRoad o_oftenPegs o_f4 hi_i hl_o_taped hh_o_taped hl_o_size hh_o_size hl_o_at hh_o_at hl_o_from hh_o_from hl_o_oneTurn hh_o_oneTurn) (cwV 1 hts (gV w_1394 w_1396 wp_90 w_11 w_1397) rfl rfl rfl ⟨rfl, hd_X10_is⟩ ⟨Nat.le_of_ble_eq_true rfl, Nat.le_of_ble_eq_true rfl⟩) (mVs hK hZ hP hD hE hS hA [0, 1] rfl rfl [.ref (ad.1 i)] 0 10 rfl rfl) rfl rfl hl.1 rfl (lv_room (Nat.le_of_ble_eq_true rfl)) dX10_takes_2 ⟨Nat.le_of_ble_eq_true rfl, Nat.le_of_ble_eq_true rfl⟩) (fun r1 u2 H locs hw3 hP hD hS => ?_)
  try dsimp only at hw3
  have hP : va_P G vwCl [(h0, oX10 b o_thrown o_taped o_size o_at o_from o_token o_value o_faultKind o_faultPlace o_lawNow o_walkSet o_oneWidow o_oneTurn o_askWorst o_mayWalk o_oftenAll o_oftenRoad o_oftenPegs), (b 4, .inl (cB, 900, .inl o_f4))] H := hP
  have hD : va_D A [(h0, oX10 b o_thrown o_taped o_size o_at o_from o_token o_value o_faultKind o_faultPlace o_lawNow o_walkSet o_oneWidow o_oneTurn o_askWorst o_mayWalk o_oftenAll o_oftenRoad o_oftenPegs), (b 4, .inl (cB, 900, .inl o_f4))] := hD
  rcases hw3 with ⟨rfl, a5⟩ | ⟨rfl, a6⟩
  · skip
    refine lv_istore_n (lv' := [(2, .int 1), (0, .ref h0), (1, .ref (ad.1 i))]) hx hb dX10_takes_5 rfl hl (by decide) rfl (fun ls hl => ?_)
    refine lv_iload_n hx hb dX10_takes_6 rfl (lv_at hl 0 rfl) ?_
    refine lv_if_eq (tgt := 14) hx hb dX10_takes_7 (by decide) (fun c7 => absurd c7 (by decide)) (fun c7 => ?_)
    refine lv_aload_n hx hb dX10_takes_10 rfl (lv_at hl 1 rfl) ?_
    refine k_v (wc := [(h0, oX10 b o_thrown o_taped o_size o_at o_from o_token o_value o_faultKind o_faultPlace o_lawNow o_walkSet o_oneWidow o_oneTurn o_askWorst o_mayWalk o_oftenAll o_oftenRoad o_oftenPegs), (b 4, .inl (cB, 900, .inl o_f4))]) (wr := []) hP hD hS hA [0, 1] [] rfl rfl rfl (by decide) (va_runV (As := []) (rest := []) ⟨hx, hb, hml, hown, hts⟩ (f_X10_advance l G cI cJ cZ cB cQ _ h0 b o_thrown o_taped o_size o_at o_from o_token o_value o_faultKind o_faultPlace o_lawNow o_walkSet o_oneWidow o_oneTurn o_askWorst o_mayWalk o_oftenAll o_oftenRoad o_oftenPegs o_f4 hl_o_taped hh_o_taped hl_o_size hh_o_size hl_o_at hh_o_at hl_o_from hh_o_from hl_o_oneTurn hh_o_oneTurn) (cwV 0 hts (gV w_1359 w_1361 wp_83 w_11 w_1362) rfl rfl rfl ⟨rfl, hd_X10_advance⟩ ⟨Nat.le_of_ble_eq_true rfl, Nat.le_of_ble_eq_true rfl⟩) (mV hK hZ hP hD [0, 1] rfl rfl [] 0 10 rfl rfl) rfl rfl hl.1 rfl (lv_room (Nat.le_of_ble_eq_true rfl)) dX10_takes_11 ⟨Nat.le_of_ble_eq_true rfl, Nat.le_of_ble_eq_true rfl⟩) (fun u9 H locs hw10 hP hD hS => ?_)
    obtain ⟨o_ato11, o_fromo12, o_tokeno13, o_valueo14⟩ := u9
    try dsimp only at hw10
    have hP : va_P G vwCl [(h0, oX10 b o_thrown o_taped o_size o_ato11 o_fromo12 o_tokeno13 o_valueo14 o_faultKind o_faultPlace o_lawNow o_walkSet o_oneWidow o_oneTurn o_askWorst o_mayWalk o_oftenAll o_oftenRoad o_oftenPegs), (b 4, .inl (cB, 900, .inl o_f4))] H := hP
    have hD : va_D A [(h0, oX10 b o_thrown o_taped o_size o_ato11 o_fromo12 o_tokeno13 o_valueo14 o_faultKind o_faultPlace o_lawNow o_walkSet o_oneWidow o_oneTurn o_askWorst o_mayWalk o_oftenAll o_oftenRoad o_oftenPegs), (b 4, .inl (cB, 900, .inl o_f4))] := hD
    obtain ⟨w15, w16, w17, w18, w19, w20, w21⟩ : 0 ≤ o_ato11.toInt ∧ o_ato11.toInt ≤ 900 ∧ 0 ≤ o_fromo12.toInt ∧ o_fromo12.toInt ≤ 900 ∧ o_at.toInt ≤ o_fromo12.toInt ∧ o_fromo12.toInt ≤ o_ato11.toInt ∧ (o_tokeno13.toInt = 0 ∨ o_fromo12.toInt < o_ato11.toInt) := hw10
    refine lv_iload_n hx hb dX10_takes_14 rfl (lv_at hl 0 rfl) ?_
    exact hret _ _ _ _ 1 (o_ato11, o_fromo12, o_tokeno13, o_valueo14) hP hD hS dX10_takes_15 rfl (show (((1 : Int32) = 1 ∧ isP o_faultKind.toInt o_token.toInt o_at.toInt o_from.toInt o_f4 i ∧ o_at.toInt ≤ o_fromo12.toInt ∧ o_fromo12.toInt ≤ o_ato11.toInt ∧ (o_tokeno13.toInt = 0 ∨ o_fromo12.toInt < o_ato11.toInt)) ∨ ((1 : Int32) = 0 ∧ ¬ isP o_faultKind.toInt o_token.toInt o_at.toInt o_from.toInt o_f4 i ∧ o_at = o_ato11 ∧ o_from = o_fromo12 ∧ o_token = o_tokeno13 ∧ o_value = o_valueo14)) ∧ 0 ≤ o_ato11.toInt ∧ o_ato11.toInt ≤ 900 ∧ 0 ≤ o_fromo12.toInt ∧ o_fromo12.toInt ≤ 900 from ⟨(Or.inl ⟨rfl, by assumption, w19, w20, w21⟩), w15, w16, w17, w18⟩)
  · skip
    refine lv_istore_n (lv' := [(2, .int 0), (0, .ref h0), (1, .ref (ad.1 i))]) hx hb dX10_takes_5 rfl hl (by decide) rfl (fun ls hl => ?_)
    refine lv_iload_n hx hb dX10_takes_6 rfl (lv_at hl 0 rfl) ?_
    refine lv_if_eq (tgt := 14) hx hb dX10_takes_7 (by decide) (fun c22 => ?_) (fun c22 => absurd (by decide) c22)
    refine lv_iload_n hx hb dX10_takes_14 rfl (lv_at hl 0 rfl) ?_
    exact hret _ _ _ _ 0 (o_at, o_from, o_token, o_value) hP hD hS dX10_takes_15 rfl (show (((0 : Int32) = 1 ∧ isP o_faultKind.toInt o_token.toInt o_at.toInt o_from.toInt o_f4 i ∧ o_at.toInt ≤ o_from.toInt ∧ o_from.toInt ≤ o_at.toInt ∧ (o_token.toInt = 0 ∨ o_from.toInt < o_at.toInt)) ∨ ((0 : Int32) = 0 ∧ ¬ isP o_faultKind.toInt o_token.toInt o_at.toInt o_from.toInt o_f4 i ∧ o_at = o_at ∧ o_from = o_from ∧ o_token = o_token ∧ o_value = o_value)) ∧ 0 ≤ o_at.toInt ∧ o_at.toInt ≤ 900 ∧ 0 ≤ o_from.toInt ∧ o_from.toInt ≤ 900 from ⟨(Or.inr ⟨rfl, by assumption, rfl, rfl, rfl, rfl⟩), hl_o_at, hh_o_at, hl_o_from, hh_o_from⟩)
set_option maxHeartbeats 4000000 in
set_option maxRecDepth 100000 in
theorem f_X10_expects (l : Launch) (G : va_G) (cI cJ cZ cB cQ : ClassId) (sz : Nat) (ad : AdS) (fm : Option Nat) (h0 : Nat) (i : Nat) (b : Nat → Nat) (o_thrown : Int32) (o_taped : Int32) (o_size : Int32) (o_at : Int32) (o_from : Int32) (o_token : Int32) (o_value : Int32) (o_faultKind : Int32) (o_faultPlace : Int32) (o_lawNow : Int32) (o_walkSet : Int32) (o_oneWidow : Int32) (o_oneTurn : Int32) (o_askWorst : Int32) (o_mayWalk : Int32) (o_oftenAll : Int64) (o_oftenRoad : Int64) (o_oftenPegs : Int64) (o_f4 : Nat → Int32) (hi_i : i < 34) (hl_o_taped : 0 ≤ o_taped.toInt) (hh_o_taped : o_taped.toInt ≤ 900) (hl_o_size : 0 ≤ o_size.toInt) (hh_o_size : o_size.toInt ≤ 900) (hl_o_at : 0 ≤ o_at.toInt) (hh_o_at : o_at.toInt ≤ 900) (hl_o_from : 0 ≤ o_from.toInt) (hh_o_from : o_from.toInt ≤ 900) (hl_o_oneTurn : 0 ≤ o_oneTurn.toInt) (hh_o_oneTurn : o_oneTurn.toInt ≤ 4) : CVs l yX10_expects (wl_ yX10_expects cX10_expects 2 none) ({ frames := 6, cells := 0, slots := 0, locals := 130 } : Room) G (TY cI cJ cZ cB cQ) [.ref h0, .ref (ad.1 i)] [(h0, oX10 b o_thrown o_taped o_size o_at o_from o_token o_value o_faultKind o_faultPlace o_lawNow o_walkSet o_oneWidow o_oneTurn o_askWorst o_mayWalk o_oftenAll o_oftenRoad o_oftenPegs), (b 4, .inl (cB, 900, .inl o_f4))] sz ad fm (fun (u : Int32 × Int32 × Int32 × Int32 × Int32 × Int32) => 0 ≤ u.1.toInt ∧ u.1.toInt ≤ 900 ∧ 0 ≤ u.2.1.toInt ∧ u.2.1.toInt ≤ 900 ∧ o_at.toInt ≤ u.1.toInt ∧ (u.2.2.2.2.1.toInt = 0 → o_faultKind.toInt = 0)) (fun u : Int32 × Int32 × Int32 × Int32 × Int32 × Int32 => [(h0, oX10 b o_thrown o_taped o_size u.1 u.2.1 u.2.2.1 u.2.2.2.1 u.2.2.2.2.1 u.2.2.2.2.2 o_lawNow o_walkSet o_oneWidow o_oneTurn o_askWorst o_mayWalk o_oftenAll o_oftenRoad o_oftenPegs), (b 4, .inl (cB, 900, .inl o_f4))]) 0 0 := by
  refine CVs.go (cc := cX10_expects) (maxL := 2) (ret := none) (by decide) rfl (Nat.le_of_ble_eq_true rfl) ?_
  intro p e s m below meth c A ls Q hBd hE hret
  obtain ⟨hx, hb, hr, hml, hts, hown, hlk, hnm, hP, hK, hD, hA, hZ, hl⟩ := hBd
  have hown : s.vm.findClass RX10 = some m.cls := hown
  have hl : lv_has ls 2 [(0, .ref h0), (1, .ref (ad.1 i))] := hl
  have hS : va_S A s.heap s.heap [] := va_S.rf
  refine lv_aload_n hx hb dX10_expects_0 rfl (lv_at hl 0 rfl) ?_
  refine lv_aload_n hx hb dX10_expects_1 rfl (lv_at hl 1 rfl) ?_
  refine k_i (wc := [(h0, oX10 b o_thrown o_taped o_size o_at o_from o_token o_value o_faultKind o_faultPlace o_lawNow o_walkSet o_oneWidow o_oneTurn o_askWorst o_mayWalk o_oftenAll o_oftenRoad o_oftenPegs), (b 4, .inl (cB, 900, .inl o_f4))]) (wr := []) hP hD hS hA [0, 1] [] rfl rfl rfl (by decide) (va_runV (As := [.ref (ad.1 i)]) (rest := []) ⟨hx, hb, hml, hown, hts⟩ (f_X10_takes l G cI cJ cZ cB cQ _ ad fm h0 i b o_thrown o_taped o_size o_at o_from o_token o_value o_faultKind o_faultPlace o_lawNow o_walkSet o_oneWidow o_oneTurn o_askWorst o_mayWalk o_oftenAll o_oftenRoad o_oftenPegs o_f4 hi_i hl_o_taped hh_o_taped hl_o_size hh_o_size hl_o_at hh_o_at hl_o_from hh_o_from hl_o_oneTurn hh_o_oneTurn) (cwV 1 hts (gV w_1390 w_1392 wp_89 w_11 w_1393) rfl rfl rfl ⟨rfl, hd_X10_takes⟩ ⟨Nat.le_of_ble_eq_true rfl, Nat.le_of_ble_eq_true rfl⟩) (mVs hK hZ hP hD hE hS hA [0, 1] rfl rfl [.ref (ad.1 i)] 0 10 rfl rfl) rfl rfl hl.1 rfl (lv_room (Nat.le_of_ble_eq_true rfl)) dX10_expects_2 ⟨Nat.le_of_ble_eq_true rfl, Nat.le_of_ble_eq_true rfl⟩) (fun r1 u2 H locs hw3 hP hD hS => ?_)
  obtain ⟨o_ato4, o_fromo5, o_tokeno6, o_valueo7⟩ := u2
  try dsimp only at hw3
  have hP : va_P G vwCl [(h0, oX10 b o_thrown o_taped o_size o_ato4 o_fromo5 o_tokeno6 o_valueo7 o_faultKind o_faultPlace o_lawNow o_walkSet o_oneWidow o_oneTurn o_askWorst o_mayWalk o_oftenAll o_oftenRoad o_oftenPegs), (b 4, .inl (cB, 900, .inl o_f4))] H := hP
  have hD : va_D A [(h0, oX10 b o_thrown o_taped o_size o_ato4 o_fromo5 o_tokeno6 o_valueo7 o_faultKind o_faultPlace o_lawNow o_walkSet o_oneWidow o_oneTurn o_askWorst o_mayWalk o_oftenAll o_oftenRoad o_oftenPegs), (b 4, .inl (cB, 900, .inl o_f4))] := hD
  obtain ⟨w8, w9, w10, w11, w12⟩ : ((r1 = 1 ∧ isP o_faultKind.toInt o_token.toInt o_at.toInt o_from.toInt o_f4 i ∧ o_at.toInt ≤ o_fromo5.toInt ∧ o_fromo5.toInt ≤ o_ato4.toInt ∧ (o_tokeno6.toInt = 0 ∨ o_fromo5.toInt < o_ato4.toInt)) ∨ (r1 = 0 ∧ ¬ isP o_faultKind.toInt o_token.toInt o_at.toInt o_from.toInt o_f4 i ∧ o_at = o_ato4 ∧ o_from = o_fromo5 ∧ o_token = o_tokeno6 ∧ o_value = o_valueo7)) ∧ 0 ≤ o_ato4.toInt ∧ o_ato4.toInt ≤ 900 ∧ 0 ≤ o_fromo5.toInt ∧ o_fromo5.toInt ≤ 900 := hw3
  rcases w8 with ⟨rfl, a13, a14, a15, a16⟩ | ⟨rfl, a17, rfl, rfl, rfl, rfl⟩
  · skip
    refine lv_if_ne (tgt := 13) hx hb dX10_expects_5 (by decide) (fun c18 => ?_) (fun c18 => absurd c18 (by decide))
    exact hret _ _ _ _ (o_ato4, o_fromo5, o_tokeno6, o_valueo7, o_faultKind, o_faultPlace) hP hD hS dX10_expects_13 (show 0 ≤ o_ato4.toInt ∧ o_ato4.toInt ≤ 900 ∧ 0 ≤ o_fromo5.toInt ∧ o_fromo5.toInt ≤ 900 ∧ o_at.toInt ≤ o_ato4.toInt ∧ (o_faultKind.toInt = 0 → o_faultKind.toInt = 0) from ⟨w9, w10, w11, w12, (by omega), (by omega)⟩)
  · skip
    refine lv_if_ne (tgt := 13) hx hb dX10_expects_5 (by decide) (fun c19 => absurd (by decide) c19) (fun c19 => ?_)
    refine lv_aload_n hx hb dX10_expects_8 rfl (lv_at hl 0 rfl) ?_
    refine lv_iconst (v := 1) hx hb dX10_expects_9 (by decide) ?_
    refine k_v (wc := [(h0, oX10 b o_thrown o_taped o_size o_at o_from o_token o_value o_faultKind o_faultPlace o_lawNow o_walkSet o_oneWidow o_oneTurn o_askWorst o_mayWalk o_oftenAll o_oftenRoad o_oftenPegs)]) (wr := [(b 4, .inl (cB, 900, .inl o_f4))]) hP hD hS hA [0] [1] rfl rfl rfl (by decide) (va_runV (As := [.int 1]) (rest := []) ⟨hx, hb, hml, hown, hts⟩ (f_X10_errs l G cI cJ cZ cB cQ _ h0 1 1 b o_thrown o_taped o_size o_at o_from o_token o_value o_faultKind o_faultPlace o_lawNow o_walkSet o_oneWidow o_oneTurn o_askWorst o_mayWalk o_oftenAll o_oftenRoad o_oftenPegs ki_1 (by omega) hl_o_taped hh_o_taped hl_o_size hh_o_size hl_o_at hh_o_at hl_o_from hh_o_from hl_o_oneTurn hh_o_oneTurn) (cwV 1 hts (gV w_1400 w_1402 wp_91 w_11 w_1403) rfl rfl rfl ⟨rfl, hd_X10_errs⟩ ⟨Nat.le_of_ble_eq_true rfl, Nat.le_of_ble_eq_true rfl⟩) (mV hK hZ hP hD [0] rfl rfl [.int 1] 0 10 rfl rfl) rfl rfl hl.1 rfl (lv_room (Nat.le_of_ble_eq_true rfl)) dX10_expects_10 ⟨Nat.le_of_ble_eq_true rfl, Nat.le_of_ble_eq_true rfl⟩) (fun u21 H locs hw22 hP hD hS => ?_)
    obtain ⟨o_faultKindo23, o_faultPlaceo24⟩ := u21
    try dsimp only at hw22
    have hP : va_P G vwCl [(b 4, .inl (cB, 900, .inl o_f4)), (h0, oX10 b o_thrown o_taped o_size o_at o_from o_token o_value o_faultKindo23 o_faultPlaceo24 o_lawNow o_walkSet o_oneWidow o_oneTurn o_askWorst o_mayWalk o_oftenAll o_oftenRoad o_oftenPegs)] H := hP
    have hD : va_D A [(b 4, .inl (cB, 900, .inl o_f4)), (h0, oX10 b o_thrown o_taped o_size o_at o_from o_token o_value o_faultKindo23 o_faultPlaceo24 o_lawNow o_walkSet o_oneWidow o_oneTurn o_askWorst o_mayWalk o_oftenAll o_oftenRoad o_oftenPegs)] := hD
    have w25 : ¬ o_faultKindo23.toInt = 0 := hw22
    exact hret _ _ _ _ (o_at, o_from, o_token, o_value, o_faultKindo23, o_faultPlaceo24) (hP.sub (ws' := [(h0, oX10 b o_thrown o_taped o_size o_at o_from o_token o_value o_faultKindo23 o_faultPlaceo24 o_lawNow o_walkSet o_oneWidow o_oneTurn o_askWorst o_mayWalk o_oftenAll o_oftenRoad o_oftenPegs), (b 4, .inl (cB, 900, .inl o_f4))]) [1, 0] rfl) (hD.sub (ws' := [(h0, oX10 b o_thrown o_taped o_size o_at o_from o_token o_value o_faultKindo23 o_faultPlaceo24 o_lawNow o_walkSet o_oneWidow o_oneTurn o_askWorst o_mayWalk o_oftenAll o_oftenRoad o_oftenPegs), (b 4, .inl (cB, 900, .inl o_f4))]) [1, 0] rfl rfl) hS dX10_expects_13 (show 0 ≤ o_at.toInt ∧ o_at.toInt ≤ 900 ∧ 0 ≤ o_from.toInt ∧ o_from.toInt ≤ 900 ∧ o_at.toInt ≤ o_at.toInt ∧ (o_faultKindo23.toInt = 0 → o_faultKind.toInt = 0) from ⟨hl_o_at, hh_o_at, hl_o_from, hh_o_from, (by omega), (by omega)⟩)
set_option maxHeartbeats 4000000 in
set_option maxRecDepth 100000 in
theorem f_X10_number (l : Launch) (G : va_G) (cI cJ cZ cB cQ : ClassId) (sz : Nat) (h0 : Nat) (p0 : Int32) (a0 : Int) (p1 : Int32) (a1 : Int) (b : Nat → Nat) (o_thrown : Int32) (o_taped : Int32) (o_size : Int32) (o_at : Int32) (o_from : Int32) (o_token : Int32) (o_value : Int32) (o_faultKind : Int32) (o_faultPlace : Int32) (o_lawNow : Int32) (o_walkSet : Int32) (o_oneWidow : Int32) (o_oneTurn : Int32) (o_askWorst : Int32) (o_mayWalk : Int32) (o_oftenAll : Int64) (o_oftenRoad : Int64) (o_oftenPegs : Int64) (o_f4 : Nat → Int32) (hp0 : p0.toInt = a0) (hp1 : p1.toInt = a1) (hl_o_taped : 0 ≤ o_taped.toInt) (hh_o_taped : o_taped.toInt ≤ 900) (hl_o_size : 0 ≤ o_size.toInt) (hh_o_size : o_size.toInt ≤ 900) (hl_o_at : 0 ≤ o_at.toInt) (hh_o_at : o_at.toInt ≤ 900) (hl_o_from : 0 ≤ o_from.toInt) (hh_o_from : o_from.toInt ≤ 900) (hl_o_oneTurn : 0 ≤ o_oneTurn.toInt) (hh_o_oneTurn : o_oneTurn.toInt ≤ 4) : CI l yX10_number (wl_ yX10_number cX10_number 4 (some .int)) ({ frames := 2, cells := 0, slots := 0, locals := 46 } : Room) G (TY cI cJ cZ cB cQ) [.ref h0, .int p0, .int p1] [(h0, oX10 b o_thrown o_taped o_size o_at o_from o_token o_value o_faultKind o_faultPlace o_lawNow o_walkSet o_oneWidow o_oneTurn o_askWorst o_mayWalk o_oftenAll o_oftenRoad o_oftenPegs), (b 4, .inl (cB, 900, .inl o_f4))] sz (fun (r : Int32) (u : Int32 × Int32 × Int32 × Int32 × Int32 × Int32) => 0 ≤ u.1.toInt ∧ u.1.toInt ≤ 900 ∧ 0 ≤ u.2.1.toInt ∧ u.2.1.toInt ≤ 900 ∧ o_at.toInt ≤ u.1.toInt ∧ ((a0 ≤ r.toInt ∧ r.toInt ≤ a1 ∧ u.2.2.2.2.1.toInt = 0 ∧ o_faultKind.toInt = 0) ∨ (r.toInt = 0 ∧ ¬ u.2.2.2.2.1.toInt = 0))) (fun u : Int32 × Int32 × Int32 × Int32 × Int32 × Int32 => [(h0, oX10 b o_thrown o_taped o_size u.1 u.2.1 u.2.2.1 u.2.2.2.1 u.2.2.2.2.1 u.2.2.2.2.2 o_lawNow o_walkSet o_oneWidow o_oneTurn o_askWorst o_mayWalk o_oftenAll o_oftenRoad o_oftenPegs), (b 4, .inl (cB, 900, .inl o_f4))]) 0 0 := by
  refine CI.go (cc := cX10_number) (maxL := 4) (ret := (some .int)) (by decide) rfl (Nat.le_of_ble_eq_true rfl) ?_
  intro p e s m below meth c A ls Q hBd hret
  obtain ⟨hx, hb, hr, hml, hts, hown, hlk, hnm, hP, hK, hD, hA, hZ, hl⟩ := hBd
  have hown : s.vm.findClass RX10 = some m.cls := hown
  have hl : lv_has ls 4 [(0, .ref h0), (1, .int p0), (2, .int p1)] := hl
  have hS : va_S A s.heap s.heap [] := va_S.rf
  refine lv_aload_n hx hb dX10_number_0 rfl (lv_at hl 0 rfl) ?_
  refine k_i (wc := [(h0, oX10 b o_thrown o_taped o_size o_at o_from o_token o_value o_faultKind o_faultPlace o_lawNow o_walkSet o_oneWidow o_oneTurn o_askWorst o_mayWalk o_oftenAll o_oftenRoad o_oftenPegs)]) (wr := [(b 4, .inl (cB, 900, .inl o_f4))]) hP hD hS hA [0] [1] rfl rfl rfl (by decide) (va_runV (As := []) (rest := []) ⟨hx, hb, hml, hown, hts⟩ (f_X10_good l G cI cJ cZ cB cQ _ h0 b o_thrown o_taped o_size o_at o_from o_token o_value o_faultKind o_faultPlace o_lawNow o_walkSet o_oneWidow o_oneTurn o_askWorst o_mayWalk o_oftenAll o_oftenRoad o_oftenPegs hl_o_taped hh_o_taped hl_o_size hh_o_size hl_o_at hh_o_at hl_o_from hh_o_from hl_o_oneTurn hh_o_oneTurn) (cwV 0 hts (gV w_1373 w_1375 wp_85 w_11 w_1376) rfl rfl rfl ⟨rfl, hd_X10_good⟩ ⟨Nat.le_of_ble_eq_true rfl, Nat.le_of_ble_eq_true rfl⟩) (mV hK hZ hP hD [0] rfl rfl [] 0 10 rfl rfl) rfl rfl hl.1 rfl (lv_room (Nat.le_of_ble_eq_true rfl)) dX10_number_1 ⟨Nat.le_of_ble_eq_true rfl, Nat.le_of_ble_eq_true rfl⟩) (fun r1 u2 H locs hw3 hP hD hS => ?_)
  try dsimp only at hw3
  have hP : va_P G vwCl [(b 4, .inl (cB, 900, .inl o_f4)), (h0, oX10 b o_thrown o_taped o_size o_at o_from o_token o_value o_faultKind o_faultPlace o_lawNow o_walkSet o_oneWidow o_oneTurn o_askWorst o_mayWalk o_oftenAll o_oftenRoad o_oftenPegs)] H := hP
  have hD : va_D A [(b 4, .inl (cB, 900, .inl o_f4)), (h0, oX10 b o_thrown o_taped o_size o_at o_from o_token o_value o_faultKind o_faultPlace o_lawNow o_walkSet o_oneWidow o_oneTurn o_askWorst o_mayWalk o_oftenAll o_oftenRoad o_oftenPegs)] := hD
  rcases hw3 with ⟨rfl, a5⟩ | ⟨rfl, a6⟩
  · skip
    refine lv_if_eq (tgt := 20) hx hb dX10_number_4 (by decide) (fun c7 => absurd c7 (by decide)) (fun c7 => ?_)
    refine lv_aload_n hx hb dX10_number_7 rfl (lv_at hl 0 rfl) ?_
    refine va_get (D := G) (ci := 10) (v := .int o_token) (C := RX10) (T := TX10) (N := 46) hx hb hts iG_X10 hown hK hP 1 rfl rfl 10 (by decide) (hts _ w_1202) (fun _ h9 => h9) rfl dX10_number_8 ?_
    refine lv_iconst (v := 2) hx hb dX10_number_11 (by decide) ?_
    refine lv_icmp_eq (tgt := 20) hx hb dX10_number_12 (by decide) (fun c8 => ?_) (fun c8 => ?_)
    · have c8 := i_eq rfl ki_2 c8
      refine lv_aload_n hx hb dX10_number_20 rfl (lv_at hl 0 rfl) ?_
      refine k_i (wc := [(h0, oX10 b o_thrown o_taped o_size o_at o_from o_token o_value o_faultKind o_faultPlace o_lawNow o_walkSet o_oneWidow o_oneTurn o_askWorst o_mayWalk o_oftenAll o_oftenRoad o_oftenPegs)]) (wr := [(b 4, .inl (cB, 900, .inl o_f4))]) hP hD hS hA [1] [0] rfl rfl rfl (by decide) (va_runV (As := []) (rest := []) ⟨hx, hb, hml, hown, hts⟩ (f_X10_good l G cI cJ cZ cB cQ _ h0 b o_thrown o_taped o_size o_at o_from o_token o_value o_faultKind o_faultPlace o_lawNow o_walkSet o_oneWidow o_oneTurn o_askWorst o_mayWalk o_oftenAll o_oftenRoad o_oftenPegs hl_o_taped hh_o_taped hl_o_size hh_o_size hl_o_at hh_o_at hl_o_from hh_o_from hl_o_oneTurn hh_o_oneTurn) (cwV 0 hts (gV w_1373 w_1375 wp_85 w_11 w_1376) rfl rfl rfl ⟨rfl, hd_X10_good⟩ ⟨Nat.le_of_ble_eq_true rfl, Nat.le_of_ble_eq_true rfl⟩) (mV hK hZ hP hD [1] rfl rfl [] 1 10 rfl rfl) rfl rfl hl.1 rfl (lv_room (Nat.le_of_ble_eq_true rfl)) dX10_number_21 ⟨Nat.le_of_ble_eq_true rfl, Nat.le_of_ble_eq_true rfl⟩) (fun r9 u10 H locs hw11 hP hD hS => ?_)
      try dsimp only at hw11
      have hP : va_P G vwCl [(b 4, .inl (cB, 900, .inl o_f4)), (h0, oX10 b o_thrown o_taped o_size o_at o_from o_token o_value o_faultKind o_faultPlace o_lawNow o_walkSet o_oneWidow o_oneTurn o_askWorst o_mayWalk o_oftenAll o_oftenRoad o_oftenPegs)] H := hP
      have hD : va_D A [(b 4, .inl (cB, 900, .inl o_f4)), (h0, oX10 b o_thrown o_taped o_size o_at o_from o_token o_value o_faultKind o_faultPlace o_lawNow o_walkSet o_oneWidow o_oneTurn o_askWorst o_mayWalk o_oftenAll o_oftenRoad o_oftenPegs)] := hD
      rcases hw11 with ⟨rfl, a13⟩ | ⟨rfl, a14⟩
      · skip
        refine lv_if_eq (tgt := 47) hx hb dX10_number_24 (by decide) (fun c15 => absurd c15 (by decide)) (fun c15 => ?_)
        refine lv_aload_n hx hb dX10_number_27 rfl (lv_at hl 0 rfl) ?_
        refine va_get (D := G) (ci := 10) (v := .int o_value) (C := RX10) (T := TX10) (N := 46) hx hb hts iG_X10 hown hK hP 1 rfl rfl 11 (by decide) (hts _ w_1203) (fun _ h9 => h9) rfl dX10_number_28 ?_
        obtain ⟨v16, ev16⟩ : ∃ y : Int64, o_value.toInt64 = y := ⟨_, rfl⟩
        have tv16 : v16.toInt = o_value.toInt := ti_wide rfl ev16
        refine lv_i2l (v := v16) hx hb dX10_number_31 ev16 ?_
        refine lv_iload_n hx hb dX10_number_32 rfl (lv_at hl 1 rfl) ?_
        obtain ⟨v17, ev17⟩ : ∃ y : Int64, p0.toInt64 = y := ⟨_, rfl⟩
        have tv17 : v17.toInt = a0 := ti_wide hp0 ev17
        refine lv_i2l (v := v17) hx hb dX10_number_33 ev17 ?_
        refine lv_iload_n hx hb dX10_number_34 rfl (lv_at hl 2 rfl) ?_
        obtain ⟨v18, ev18⟩ : ∃ y : Int64, p1.toInt64 = y := ⟨_, rfl⟩
        have tv18 : v18.toInt = a1 := ti_wide hp1 ev18
        refine lv_i2l (v := v18) hx hb dX10_number_35 ev18 ?_
        refine k_i (wc := []) (wr := [(b 4, .inl (cB, 900, .inl o_f4)), (h0, oX10 b o_thrown o_taped o_size o_at o_from o_token o_value o_faultKind o_faultPlace o_lawNow o_walkSet o_oneWidow o_oneTurn o_askWorst o_mayWalk o_oftenAll o_oftenRoad o_oftenPegs)]) hP hD hS hA [] [0, 1] rfl rfl rfl (by decide) (va_runS (As := [.long v16, .long v17, .long v18]) (rest := []) ⟨hx, hb, hml, hown, hts⟩ (f_X10_in l G cI cJ cZ cB cQ _ v16 o_value.toInt v17 a0 v18 a1 tv16 tv17 tv18) (va_cwS 3 hts (gS w_1336 w_1337 w_11 w_1338) rfl rfl rfl hd_X10_in ⟨Nat.le_of_ble_eq_true rfl, Nat.le_of_ble_eq_true rfl⟩) (mS hK hZ hP hD [] rfl rfl [.long v16, .long v17, .long v18]) rfl rfl hl.1 rfl (lv_room (Nat.le_of_ble_eq_true rfl)) dX10_number_36 ⟨Nat.le_of_ble_eq_true rfl, Nat.le_of_ble_eq_true rfl⟩) (fun r19 u20 H locs hw21 hP hD hS => ?_)
        try dsimp only at hw21
        have hP : va_P G vwCl [(b 4, .inl (cB, 900, .inl o_f4)), (h0, oX10 b o_thrown o_taped o_size o_at o_from o_token o_value o_faultKind o_faultPlace o_lawNow o_walkSet o_oneWidow o_oneTurn o_askWorst o_mayWalk o_oftenAll o_oftenRoad o_oftenPegs)] H := hP
        have hD : va_D A [(b 4, .inl (cB, 900, .inl o_f4)), (h0, oX10 b o_thrown o_taped o_size o_at o_from o_token o_value o_faultKind o_faultPlace o_lawNow o_walkSet o_oneWidow o_oneTurn o_askWorst o_mayWalk o_oftenAll o_oftenRoad o_oftenPegs)] := hD
        rcases hw21 with ⟨rfl, a23, a24⟩ | ⟨rfl, a25⟩
        · skip
          refine lv_if_ne (tgt := 47) hx hb dX10_number_39 (by decide) (fun c26 => ?_) (fun c26 => absurd c26 (by decide))
          refine lv_aload_n hx hb dX10_number_47 rfl (lv_at hl 0 rfl) ?_
          refine k_i (wc := [(h0, oX10 b o_thrown o_taped o_size o_at o_from o_token o_value o_faultKind o_faultPlace o_lawNow o_walkSet o_oneWidow o_oneTurn o_askWorst o_mayWalk o_oftenAll o_oftenRoad o_oftenPegs)]) (wr := [(b 4, .inl (cB, 900, .inl o_f4))]) hP hD hS hA [1] [0] rfl rfl rfl (by decide) (va_runV (As := []) (rest := []) ⟨hx, hb, hml, hown, hts⟩ (f_X10_good l G cI cJ cZ cB cQ _ h0 b o_thrown o_taped o_size o_at o_from o_token o_value o_faultKind o_faultPlace o_lawNow o_walkSet o_oneWidow o_oneTurn o_askWorst o_mayWalk o_oftenAll o_oftenRoad o_oftenPegs hl_o_taped hh_o_taped hl_o_size hh_o_size hl_o_at hh_o_at hl_o_from hh_o_from hl_o_oneTurn hh_o_oneTurn) (cwV 0 hts (gV w_1373 w_1375 wp_85 w_11 w_1376) rfl rfl rfl ⟨rfl, hd_X10_good⟩ ⟨Nat.le_of_ble_eq_true rfl, Nat.le_of_ble_eq_true rfl⟩) (mV hK hZ hP hD [1] rfl rfl [] 1 10 rfl rfl) rfl rfl hl.1 rfl (lv_room (Nat.le_of_ble_eq_true rfl)) dX10_number_48 ⟨Nat.le_of_ble_eq_true rfl, Nat.le_of_ble_eq_true rfl⟩) (fun r27 u28 H locs hw29 hP hD hS => ?_)
          try dsimp only at hw29
          have hP : va_P G vwCl [(b 4, .inl (cB, 900, .inl o_f4)), (h0, oX10 b o_thrown o_taped o_size o_at o_from o_token o_value o_faultKind o_faultPlace o_lawNow o_walkSet o_oneWidow o_oneTurn o_askWorst o_mayWalk o_oftenAll o_oftenRoad o_oftenPegs)] H := hP
          have hD : va_D A [(b 4, .inl (cB, 900, .inl o_f4)), (h0, oX10 b o_thrown o_taped o_size o_at o_from o_token o_value o_faultKind o_faultPlace o_lawNow o_walkSet o_oneWidow o_oneTurn o_askWorst o_mayWalk o_oftenAll o_oftenRoad o_oftenPegs)] := hD
          rcases hw29 with ⟨rfl, a31⟩ | ⟨rfl, a32⟩
          · skip
            refine lv_if_ne (tgt := 56) hx hb dX10_number_51 (by decide) (fun c33 => ?_) (fun c33 => absurd c33 (by decide))
            refine lv_aload_n hx hb dX10_number_56 rfl (lv_at hl 0 rfl) ?_
            refine va_get (D := G) (ci := 10) (v := .int o_value) (C := RX10) (T := TX10) (N := 46) hx hb hts iG_X10 hown hK hP 1 rfl rfl 11 (by decide) (hts _ w_1203) (fun _ h9 => h9) rfl dX10_number_57 ?_
            refine lv_istore_n (lv' := [(3, .int o_value), (0, .ref h0), (1, .int p0), (2, .int p1)]) hx hb dX10_number_60 rfl hl (by decide) rfl (fun ls hl => ?_)
            refine lv_aload_n hx hb dX10_number_61 rfl (lv_at hl 1 rfl) ?_
            refine k_v (wc := [(h0, oX10 b o_thrown o_taped o_size o_at o_from o_token o_value o_faultKind o_faultPlace o_lawNow o_walkSet o_oneWidow o_oneTurn o_askWorst o_mayWalk o_oftenAll o_oftenRoad o_oftenPegs), (b 4, .inl (cB, 900, .inl o_f4))]) (wr := []) hP hD hS hA [1, 0] [] rfl rfl rfl (by decide) (va_runV (As := []) (rest := []) ⟨hx, hb, hml, hown, hts⟩ (f_X10_advance l G cI cJ cZ cB cQ _ h0 b o_thrown o_taped o_size o_at o_from o_token o_value o_faultKind o_faultPlace o_lawNow o_walkSet o_oneWidow o_oneTurn o_askWorst o_mayWalk o_oftenAll o_oftenRoad o_oftenPegs o_f4 hl_o_taped hh_o_taped hl_o_size hh_o_size hl_o_at hh_o_at hl_o_from hh_o_from hl_o_oneTurn hh_o_oneTurn) (cwV 0 hts (gV w_1359 w_1361 wp_83 w_11 w_1362) rfl rfl rfl ⟨rfl, hd_X10_advance⟩ ⟨Nat.le_of_ble_eq_true rfl, Nat.le_of_ble_eq_true rfl⟩) (mV hK hZ hP hD [1, 0] rfl rfl [] 1 10 rfl rfl) rfl rfl hl.1 rfl (lv_room (Nat.le_of_ble_eq_true rfl)) dX10_number_62 ⟨Nat.le_of_ble_eq_true rfl, Nat.le_of_ble_eq_true rfl⟩) (fun u35 H locs hw36 hP hD hS => ?_)
            obtain ⟨o_ato37, o_fromo38, o_tokeno39, o_valueo40⟩ := u35
            try dsimp only at hw36
            have hP : va_P G vwCl [(h0, oX10 b o_thrown o_taped o_size o_ato37 o_fromo38 o_tokeno39 o_valueo40 o_faultKind o_faultPlace o_lawNow o_walkSet o_oneWidow o_oneTurn o_askWorst o_mayWalk o_oftenAll o_oftenRoad o_oftenPegs), (b 4, .inl (cB, 900, .inl o_f4))] H := hP
            have hD : va_D A [(h0, oX10 b o_thrown o_taped o_size o_ato37 o_fromo38 o_tokeno39 o_valueo40 o_faultKind o_faultPlace o_lawNow o_walkSet o_oneWidow o_oneTurn o_askWorst o_mayWalk o_oftenAll o_oftenRoad o_oftenPegs), (b 4, .inl (cB, 900, .inl o_f4))] := hD
            obtain ⟨w41, w42, w43, w44, w45, w46, w47⟩ : 0 ≤ o_ato37.toInt ∧ o_ato37.toInt ≤ 900 ∧ 0 ≤ o_fromo38.toInt ∧ o_fromo38.toInt ≤ 900 ∧ o_at.toInt ≤ o_fromo38.toInt ∧ o_fromo38.toInt ≤ o_ato37.toInt ∧ (o_tokeno39.toInt = 0 ∨ o_fromo38.toInt < o_ato37.toInt) := hw36
            refine lv_iload_n hx hb dX10_number_65 rfl (lv_at hl 0 rfl) ?_
            exact hret _ _ _ _ o_value (o_ato37, o_fromo38, o_tokeno39, o_valueo40, o_faultKind, o_faultPlace) hP hD hS dX10_number_66 (show 0 ≤ o_ato37.toInt ∧ o_ato37.toInt ≤ 900 ∧ 0 ≤ o_fromo38.toInt ∧ o_fromo38.toInt ≤ 900 ∧ o_at.toInt ≤ o_ato37.toInt ∧ ((a0 ≤ o_value.toInt ∧ o_value.toInt ≤ a1 ∧ o_faultKind.toInt = 0 ∧ o_faultKind.toInt = 0) ∨ (o_value.toInt = 0 ∧ ¬ o_faultKind.toInt = 0)) from ⟨w41, w42, w43, w44, (by omega), (by omega)⟩)
          · exact absurd a32 (by omega)
        · skip
          refine lv_if_ne (tgt := 47) hx hb dX10_number_39 (by decide) (fun c48 => absurd (by decide) c48) (fun c48 => ?_)
          refine lv_aload_n hx hb dX10_number_42 rfl (lv_at hl 0 rfl) ?_
          refine lv_iconst (v := 2) hx hb dX10_number_43 (by decide) ?_
          refine k_v (wc := [(h0, oX10 b o_thrown o_taped o_size o_at o_from o_token o_value o_faultKind o_faultPlace o_lawNow o_walkSet o_oneWidow o_oneTurn o_askWorst o_mayWalk o_oftenAll o_oftenRoad o_oftenPegs)]) (wr := [(b 4, .inl (cB, 900, .inl o_f4))]) hP hD hS hA [1] [0] rfl rfl rfl (by decide) (va_runV (As := [.int 2]) (rest := []) ⟨hx, hb, hml, hown, hts⟩ (f_X10_errs l G cI cJ cZ cB cQ _ h0 2 2 b o_thrown o_taped o_size o_at o_from o_token o_value o_faultKind o_faultPlace o_lawNow o_walkSet o_oneWidow o_oneTurn o_askWorst o_mayWalk o_oftenAll o_oftenRoad o_oftenPegs ki_2 (by omega) hl_o_taped hh_o_taped hl_o_size hh_o_size hl_o_at hh_o_at hl_o_from hh_o_from hl_o_oneTurn hh_o_oneTurn) (cwV 1 hts (gV w_1400 w_1402 wp_91 w_11 w_1403) rfl rfl rfl ⟨rfl, hd_X10_errs⟩ ⟨Nat.le_of_ble_eq_true rfl, Nat.le_of_ble_eq_true rfl⟩) (mV hK hZ hP hD [1] rfl rfl [.int 2] 1 10 rfl rfl) rfl rfl hl.1 rfl (lv_room (Nat.le_of_ble_eq_true rfl)) dX10_number_44 ⟨Nat.le_of_ble_eq_true rfl, Nat.le_of_ble_eq_true rfl⟩) (fun u50 H locs hw51 hP hD hS => ?_)
          obtain ⟨o_faultKindo52, o_faultPlaceo53⟩ := u50
          try dsimp only at hw51
          have hP : va_P G vwCl [(b 4, .inl (cB, 900, .inl o_f4)), (h0, oX10 b o_thrown o_taped o_size o_at o_from o_token o_value o_faultKindo52 o_faultPlaceo53 o_lawNow o_walkSet o_oneWidow o_oneTurn o_askWorst o_mayWalk o_oftenAll o_oftenRoad o_oftenPegs)] H := hP
          have hD : va_D A [(b 4, .inl (cB, 900, .inl o_f4)), (h0, oX10 b o_thrown o_taped o_size o_at o_from o_token o_value o_faultKindo52 o_faultPlaceo53 o_lawNow o_walkSet o_oneWidow o_oneTurn o_askWorst o_mayWalk o_oftenAll o_oftenRoad o_oftenPegs)] := hD
          have w54 : ¬ o_faultKindo52.toInt = 0 := hw51
          refine lv_aload_n hx hb dX10_number_47 rfl (lv_at hl 0 rfl) ?_
          refine k_i (wc := [(h0, oX10 b o_thrown o_taped o_size o_at o_from o_token o_value o_faultKindo52 o_faultPlaceo53 o_lawNow o_walkSet o_oneWidow o_oneTurn o_askWorst o_mayWalk o_oftenAll o_oftenRoad o_oftenPegs)]) (wr := [(b 4, .inl (cB, 900, .inl o_f4))]) hP hD hS hA [1] [0] rfl rfl rfl (by decide) (va_runV (As := []) (rest := []) ⟨hx, hb, hml, hown, hts⟩ (f_X10_good l G cI cJ cZ cB cQ _ h0 b o_thrown o_taped o_size o_at o_from o_token o_value o_faultKindo52 o_faultPlaceo53 o_lawNow o_walkSet o_oneWidow o_oneTurn o_askWorst o_mayWalk o_oftenAll o_oftenRoad o_oftenPegs hl_o_taped hh_o_taped hl_o_size hh_o_size hl_o_at hh_o_at hl_o_from hh_o_from hl_o_oneTurn hh_o_oneTurn) (cwV 0 hts (gV w_1373 w_1375 wp_85 w_11 w_1376) rfl rfl rfl ⟨rfl, hd_X10_good⟩ ⟨Nat.le_of_ble_eq_true rfl, Nat.le_of_ble_eq_true rfl⟩) (mV hK hZ hP hD [1] rfl rfl [] 1 10 rfl rfl) rfl rfl hl.1 rfl (lv_room (Nat.le_of_ble_eq_true rfl)) dX10_number_48 ⟨Nat.le_of_ble_eq_true rfl, Nat.le_of_ble_eq_true rfl⟩) (fun r55 u56 H locs hw57 hP hD hS => ?_)
          try dsimp only at hw57
          have hP : va_P G vwCl [(b 4, .inl (cB, 900, .inl o_f4)), (h0, oX10 b o_thrown o_taped o_size o_at o_from o_token o_value o_faultKindo52 o_faultPlaceo53 o_lawNow o_walkSet o_oneWidow o_oneTurn o_askWorst o_mayWalk o_oftenAll o_oftenRoad o_oftenPegs)] H := hP
          have hD : va_D A [(b 4, .inl (cB, 900, .inl o_f4)), (h0, oX10 b o_thrown o_taped o_size o_at o_from o_token o_value o_faultKindo52 o_faultPlaceo53 o_lawNow o_walkSet o_oneWidow o_oneTurn o_askWorst o_mayWalk o_oftenAll o_oftenRoad o_oftenPegs)] := hD
          rcases hw57 with ⟨rfl, a59⟩ | ⟨rfl, a60⟩
          · exact absurd a59 (by omega)
          · skip
            refine lv_if_ne (tgt := 56) hx hb dX10_number_51 (by decide) (fun c61 => absurd (by decide) c61) (fun c61 => ?_)
            refine lv_iconst (v := 0) hx hb dX10_number_54 (by decide) ?_
            exact hret _ _ _ _ 0 (o_at, o_from, o_token, o_value, o_faultKindo52, o_faultPlaceo53) (hP.sub (ws' := [(h0, oX10 b o_thrown o_taped o_size o_at o_from o_token o_value o_faultKindo52 o_faultPlaceo53 o_lawNow o_walkSet o_oneWidow o_oneTurn o_askWorst o_mayWalk o_oftenAll o_oftenRoad o_oftenPegs), (b 4, .inl (cB, 900, .inl o_f4))]) [1, 0] rfl) (hD.sub (ws' := [(h0, oX10 b o_thrown o_taped o_size o_at o_from o_token o_value o_faultKindo52 o_faultPlaceo53 o_lawNow o_walkSet o_oneWidow o_oneTurn o_askWorst o_mayWalk o_oftenAll o_oftenRoad o_oftenPegs), (b 4, .inl (cB, 900, .inl o_f4))]) [1, 0] rfl rfl) hS dX10_number_55 (show 0 ≤ o_at.toInt ∧ o_at.toInt ≤ 900 ∧ 0 ≤ o_from.toInt ∧ o_from.toInt ≤ 900 ∧ o_at.toInt ≤ o_at.toInt ∧ ((a0 ≤ (0 : Int32).toInt ∧ (0 : Int32).toInt ≤ a1 ∧ o_faultKindo52.toInt = 0 ∧ o_faultKind.toInt = 0) ∨ ((0 : Int32).toInt = 0 ∧ ¬ o_faultKindo52.toInt = 0)) from ⟨hl_o_at, hh_o_at, hl_o_from, hh_o_from, (by omega), (by have q0 := ki_0; omega)⟩)
      · exact absurd a14 (by omega)
    · have c8 := i_ne rfl ki_2 c8
      refine lv_aload_n hx hb dX10_number_15 rfl (lv_at hl 0 rfl) ?_
      refine lv_iconst (v := 1) hx hb dX10_number_16 (by decide) ?_
      refine k_v (wc := [(h0, oX10 b o_thrown o_taped o_size o_at o_from o_token o_value o_faultKind o_faultPlace o_lawNow o_walkSet o_oneWidow o_oneTurn o_askWorst o_mayWalk o_oftenAll o_oftenRoad o_oftenPegs)]) (wr := [(b 4, .inl (cB, 900, .inl o_f4))]) hP hD hS hA [1] [0] rfl rfl rfl (by decide) (va_runV (As := [.int 1]) (rest := []) ⟨hx, hb, hml, hown, hts⟩ (f_X10_errs l G cI cJ cZ cB cQ _ h0 1 1 b o_thrown o_taped o_size o_at o_from o_token o_value o_faultKind o_faultPlace o_lawNow o_walkSet o_oneWidow o_oneTurn o_askWorst o_mayWalk o_oftenAll o_oftenRoad o_oftenPegs ki_1 (by omega) hl_o_taped hh_o_taped hl_o_size hh_o_size hl_o_at hh_o_at hl_o_from hh_o_from hl_o_oneTurn hh_o_oneTurn) (cwV 1 hts (gV w_1400 w_1402 wp_91 w_11 w_1403) rfl rfl rfl ⟨rfl, hd_X10_errs⟩ ⟨Nat.le_of_ble_eq_true rfl, Nat.le_of_ble_eq_true rfl⟩) (mV hK hZ hP hD [1] rfl rfl [.int 1] 1 10 rfl rfl) rfl rfl hl.1 rfl (lv_room (Nat.le_of_ble_eq_true rfl)) dX10_number_17 ⟨Nat.le_of_ble_eq_true rfl, Nat.le_of_ble_eq_true rfl⟩) (fun u63 H locs hw64 hP hD hS => ?_)
      obtain ⟨o_faultKindo65, o_faultPlaceo66⟩ := u63
      try dsimp only at hw64
      have hP : va_P G vwCl [(b 4, .inl (cB, 900, .inl o_f4)), (h0, oX10 b o_thrown o_taped o_size o_at o_from o_token o_value o_faultKindo65 o_faultPlaceo66 o_lawNow o_walkSet o_oneWidow o_oneTurn o_askWorst o_mayWalk o_oftenAll o_oftenRoad o_oftenPegs)] H := hP
      have hD : va_D A [(b 4, .inl (cB, 900, .inl o_f4)), (h0, oX10 b o_thrown o_taped o_size o_at o_from o_token o_value o_faultKindo65 o_faultPlaceo66 o_lawNow o_walkSet o_oneWidow o_oneTurn o_askWorst o_mayWalk o_oftenAll o_oftenRoad o_oftenPegs)] := hD
      have w67 : ¬ o_faultKindo65.toInt = 0 := hw64
      refine lv_aload_n hx hb dX10_number_20 rfl (lv_at hl 0 rfl) ?_
      refine k_i (wc := [(h0, oX10 b o_thrown o_taped o_size o_at o_from o_token o_value o_faultKindo65 o_faultPlaceo66 o_lawNow o_walkSet o_oneWidow o_oneTurn o_askWorst o_mayWalk o_oftenAll o_oftenRoad o_oftenPegs)]) (wr := [(b 4, .inl (cB, 900, .inl o_f4))]) hP hD hS hA [1] [0] rfl rfl rfl (by decide) (va_runV (As := []) (rest := []) ⟨hx, hb, hml, hown, hts⟩ (f_X10_good l G cI cJ cZ cB cQ _ h0 b o_thrown o_taped o_size o_at o_from o_token o_value o_faultKindo65 o_faultPlaceo66 o_lawNow o_walkSet o_oneWidow o_oneTurn o_askWorst o_mayWalk o_oftenAll o_oftenRoad o_oftenPegs hl_o_taped hh_o_taped hl_o_size hh_o_size hl_o_at hh_o_at hl_o_from hh_o_from hl_o_oneTurn hh_o_oneTurn) (cwV 0 hts (gV w_1373 w_1375 wp_85 w_11 w_1376) rfl rfl rfl ⟨rfl, hd_X10_good⟩ ⟨Nat.le_of_ble_eq_true rfl, Nat.le_of_ble_eq_true rfl⟩) (mV hK hZ hP hD [1] rfl rfl [] 1 10 rfl rfl) rfl rfl hl.1 rfl (lv_room (Nat.le_of_ble_eq_true rfl)) dX10_number_21 ⟨Nat.le_of_ble_eq_true rfl, Nat.le_of_ble_eq_true rfl⟩) (fun r68 u69 H locs hw70 hP hD hS => ?_)
      try dsimp only at hw70
      have hP : va_P G vwCl [(b 4, .inl (cB, 900, .inl o_f4)), (h0, oX10 b o_thrown o_taped o_size o_at o_from o_token o_value o_faultKindo65 o_faultPlaceo66 o_lawNow o_walkSet o_oneWidow o_oneTurn o_askWorst o_mayWalk o_oftenAll o_oftenRoad o_oftenPegs)] H := hP
      have hD : va_D A [(b 4, .inl (cB, 900, .inl o_f4)), (h0, oX10 b o_thrown o_taped o_size o_at o_from o_token o_value o_faultKindo65 o_faultPlaceo66 o_lawNow o_walkSet o_oneWidow o_oneTurn o_askWorst o_mayWalk o_oftenAll o_oftenRoad o_oftenPegs)] := hD
      rcases hw70 with ⟨rfl, a72⟩ | ⟨rfl, a73⟩
      · exact absurd a72 (by omega)
      · skip
        refine lv_if_eq (tgt := 47) hx hb dX10_number_24 (by decide) (fun c74 => ?_) (fun c74 => absurd (by decide) c74)
        refine lv_aload_n hx hb dX10_number_47 rfl (lv_at hl 0 rfl) ?_
        refine k_i (wc := [(h0, oX10 b o_thrown o_taped o_size o_at o_from o_token o_value o_faultKindo65 o_faultPlaceo66 o_lawNow o_walkSet o_oneWidow o_oneTurn o_askWorst o_mayWalk o_oftenAll o_oftenRoad o_oftenPegs)]) (wr := [(b 4, .inl (cB, 900, .inl o_f4))]) hP hD hS hA [1] [0] rfl rfl rfl (by decide) (va_runV (As := []) (rest := []) ⟨hx, hb, hml, hown, hts⟩ (f_X10_good l G cI cJ cZ cB cQ _ h0 b o_thrown o_taped o_size o_at o_from o_token o_value o_faultKindo65 o_faultPlaceo66 o_lawNow o_walkSet o_oneWidow o_oneTurn o_askWorst o_mayWalk o_oftenAll o_oftenRoad o_oftenPegs hl_o_taped hh_o_taped hl_o_size hh_o_size hl_o_at hh_o_at hl_o_from hh_o_from hl_o_oneTurn hh_o_oneTurn) (cwV 0 hts (gV w_1373 w_1375 wp_85 w_11 w_1376) rfl rfl rfl ⟨rfl, hd_X10_good⟩ ⟨Nat.le_of_ble_eq_true rfl, Nat.le_of_ble_eq_true rfl⟩) (mV hK hZ hP hD [1] rfl rfl [] 1 10 rfl rfl) rfl rfl hl.1 rfl (lv_room (Nat.le_of_ble_eq_true rfl)) dX10_number_48 ⟨Nat.le_of_ble_eq_true rfl, Nat.le_of_ble_eq_true rfl⟩) (fun r75 u76 H locs hw77 hP hD hS => ?_)
        try dsimp only at hw77
        have hP : va_P G vwCl [(b 4, .inl (cB, 900, .inl o_f4)), (h0, oX10 b o_thrown o_taped o_size o_at o_from o_token o_value o_faultKindo65 o_faultPlaceo66 o_lawNow o_walkSet o_oneWidow o_oneTurn o_askWorst o_mayWalk o_oftenAll o_oftenRoad o_oftenPegs)] H := hP
        have hD : va_D A [(b 4, .inl (cB, 900, .inl o_f4)), (h0, oX10 b o_thrown o_taped o_size o_at o_from o_token o_value o_faultKindo65 o_faultPlaceo66 o_lawNow o_walkSet o_oneWidow o_oneTurn o_askWorst o_mayWalk o_oftenAll o_oftenRoad o_oftenPegs)] := hD
        rcases hw77 with ⟨rfl, a79⟩ | ⟨rfl, a80⟩
        · exact absurd a79 (by omega)
        · skip
          refine lv_if_ne (tgt := 56) hx hb dX10_number_51 (by decide) (fun c81 => absurd (by decide) c81) (fun c81 => ?_)
          refine lv_iconst (v := 0) hx hb dX10_number_54 (by decide) ?_
          exact hret _ _ _ _ 0 (o_at, o_from, o_token, o_value, o_faultKindo65, o_faultPlaceo66) (hP.sub (ws' := [(h0, oX10 b o_thrown o_taped o_size o_at o_from o_token o_value o_faultKindo65 o_faultPlaceo66 o_lawNow o_walkSet o_oneWidow o_oneTurn o_askWorst o_mayWalk o_oftenAll o_oftenRoad o_oftenPegs), (b 4, .inl (cB, 900, .inl o_f4))]) [1, 0] rfl) (hD.sub (ws' := [(h0, oX10 b o_thrown o_taped o_size o_at o_from o_token o_value o_faultKindo65 o_faultPlaceo66 o_lawNow o_walkSet o_oneWidow o_oneTurn o_askWorst o_mayWalk o_oftenAll o_oftenRoad o_oftenPegs), (b 4, .inl (cB, 900, .inl o_f4))]) [1, 0] rfl rfl) hS dX10_number_55 (show 0 ≤ o_at.toInt ∧ o_at.toInt ≤ 900 ∧ 0 ≤ o_from.toInt ∧ o_from.toInt ≤ 900 ∧ o_at.toInt ≤ o_at.toInt ∧ ((a0 ≤ (0 : Int32).toInt ∧ (0 : Int32).toInt ≤ a1 ∧ o_faultKindo65.toInt = 0 ∧ o_faultKind.toInt = 0) ∨ ((0 : Int32).toInt = 0 ∧ ¬ o_faultKindo65.toInt = 0)) from ⟨hl_o_at, hh_o_at, hl_o_from, hh_o_from, (by omega), (by have q0 := ki_0; omega)⟩)
  · skip
    refine lv_if_eq (tgt := 20) hx hb dX10_number_4 (by decide) (fun c82 => ?_) (fun c82 => absurd (by decide) c82)
    refine lv_aload_n hx hb dX10_number_20 rfl (lv_at hl 0 rfl) ?_
    refine k_i (wc := [(h0, oX10 b o_thrown o_taped o_size o_at o_from o_token o_value o_faultKind o_faultPlace o_lawNow o_walkSet o_oneWidow o_oneTurn o_askWorst o_mayWalk o_oftenAll o_oftenRoad o_oftenPegs)]) (wr := [(b 4, .inl (cB, 900, .inl o_f4))]) hP hD hS hA [1] [0] rfl rfl rfl (by decide) (va_runV (As := []) (rest := []) ⟨hx, hb, hml, hown, hts⟩ (f_X10_good l G cI cJ cZ cB cQ _ h0 b o_thrown o_taped o_size o_at o_from o_token o_value o_faultKind o_faultPlace o_lawNow o_walkSet o_oneWidow o_oneTurn o_askWorst o_mayWalk o_oftenAll o_oftenRoad o_oftenPegs hl_o_taped hh_o_taped hl_o_size hh_o_size hl_o_at hh_o_at hl_o_from hh_o_from hl_o_oneTurn hh_o_oneTurn) (cwV 0 hts (gV w_1373 w_1375 wp_85 w_11 w_1376) rfl rfl rfl ⟨rfl, hd_X10_good⟩ ⟨Nat.le_of_ble_eq_true rfl, Nat.le_of_ble_eq_true rfl⟩) (mV hK hZ hP hD [1] rfl rfl [] 1 10 rfl rfl) rfl rfl hl.1 rfl (lv_room (Nat.le_of_ble_eq_true rfl)) dX10_number_21 ⟨Nat.le_of_ble_eq_true rfl, Nat.le_of_ble_eq_true rfl⟩) (fun r83 u84 H locs hw85 hP hD hS => ?_)
    try dsimp only at hw85
    have hP : va_P G vwCl [(b 4, .inl (cB, 900, .inl o_f4)), (h0, oX10 b o_thrown o_taped o_size o_at o_from o_token o_value o_faultKind o_faultPlace o_lawNow o_walkSet o_oneWidow o_oneTurn o_askWorst o_mayWalk o_oftenAll o_oftenRoad o_oftenPegs)] H := hP
    have hD : va_D A [(b 4, .inl (cB, 900, .inl o_f4)), (h0, oX10 b o_thrown o_taped o_size o_at o_from o_token o_value o_faultKind o_faultPlace o_lawNow o_walkSet o_oneWidow o_oneTurn o_askWorst o_mayWalk o_oftenAll o_oftenRoad o_oftenPegs)] := hD
    rcases hw85 with ⟨rfl, a87⟩ | ⟨rfl, a88⟩
    · exact absurd a87 (by omega)
    · skip
      refine lv_if_eq (tgt := 47) hx hb dX10_number_24 (by decide) (fun c89 => ?_) (fun c89 => absurd (by decide) c89)
      refine lv_aload_n hx hb dX10_number_47 rfl (lv_at hl 0 rfl) ?_
      refine k_i (wc := [(h0, oX10 b o_thrown o_taped o_size o_at o_from o_token o_value o_faultKind o_faultPlace o_lawNow o_walkSet o_oneWidow o_oneTurn o_askWorst o_mayWalk o_oftenAll o_oftenRoad o_oftenPegs)]) (wr := [(b 4, .inl (cB, 900, .inl o_f4))]) hP hD hS hA [1] [0] rfl rfl rfl (by decide) (va_runV (As := []) (rest := []) ⟨hx, hb, hml, hown, hts⟩ (f_X10_good l G cI cJ cZ cB cQ _ h0 b o_thrown o_taped o_size o_at o_from o_token o_value o_faultKind o_faultPlace o_lawNow o_walkSet o_oneWidow o_oneTurn o_askWorst o_mayWalk o_oftenAll o_oftenRoad o_oftenPegs hl_o_taped hh_o_taped hl_o_size hh_o_size hl_o_at hh_o_at hl_o_from hh_o_from hl_o_oneTurn hh_o_oneTurn) (cwV 0 hts (gV w_1373 w_1375 wp_85 w_11 w_1376) rfl rfl rfl ⟨rfl, hd_X10_good⟩ ⟨Nat.le_of_ble_eq_true rfl, Nat.le_of_ble_eq_true rfl⟩) (mV hK hZ hP hD [1] rfl rfl [] 1 10 rfl rfl) rfl rfl hl.1 rfl (lv_room (Nat.le_of_ble_eq_true rfl)) dX10_number_48 ⟨Nat.le_of_ble_eq_true rfl, Nat.le_of_ble_eq_true rfl⟩) (fun r90 u91 H locs hw92 hP hD hS => ?_)
      try dsimp only at hw92
      have hP : va_P G vwCl [(b 4, .inl (cB, 900, .inl o_f4)), (h0, oX10 b o_thrown o_taped o_size o_at o_from o_token o_value o_faultKind o_faultPlace o_lawNow o_walkSet o_oneWidow o_oneTurn o_askWorst o_mayWalk o_oftenAll o_oftenRoad o_oftenPegs)] H := hP
      have hD : va_D A [(b 4, .inl (cB, 900, .inl o_f4)), (h0, oX10 b o_thrown o_taped o_size o_at o_from o_token o_value o_faultKind o_faultPlace o_lawNow o_walkSet o_oneWidow o_oneTurn o_askWorst o_mayWalk o_oftenAll o_oftenRoad o_oftenPegs)] := hD
      rcases hw92 with ⟨rfl, a94⟩ | ⟨rfl, a95⟩
      · exact absurd a94 (by omega)
      · skip
        refine lv_if_ne (tgt := 56) hx hb dX10_number_51 (by decide) (fun c96 => absurd (by decide) c96) (fun c96 => ?_)
        refine lv_iconst (v := 0) hx hb dX10_number_54 (by decide) ?_
        exact hret _ _ _ _ 0 (o_at, o_from, o_token, o_value, o_faultKind, o_faultPlace) (hP.sub (ws' := [(h0, oX10 b o_thrown o_taped o_size o_at o_from o_token o_value o_faultKind o_faultPlace o_lawNow o_walkSet o_oneWidow o_oneTurn o_askWorst o_mayWalk o_oftenAll o_oftenRoad o_oftenPegs), (b 4, .inl (cB, 900, .inl o_f4))]) [1, 0] rfl) (hD.sub (ws' := [(h0, oX10 b o_thrown o_taped o_size o_at o_from o_token o_value o_faultKind o_faultPlace o_lawNow o_walkSet o_oneWidow o_oneTurn o_askWorst o_mayWalk o_oftenAll o_oftenRoad o_oftenPegs), (b 4, .inl (cB, 900, .inl o_f4))]) [1, 0] rfl rfl) hS dX10_number_55 (show 0 ≤ o_at.toInt ∧ o_at.toInt ≤ 900 ∧ 0 ≤ o_from.toInt ∧ o_from.toInt ≤ 900 ∧ o_at.toInt ≤ o_at.toInt ∧ ((a0 ≤ (0 : Int32).toInt ∧ (0 : Int32).toInt ≤ a1 ∧ o_faultKind.toInt = 0 ∧ o_faultKind.toInt = 0) ∨ ((0 : Int32).toInt = 0 ∧ ¬ o_faultKind.toInt = 0)) from ⟨hl_o_at, hh_o_at, hl_o_from, hh_o_from, (by omega), (by have q0 := ki_0; omega)⟩)
set_option maxHeartbeats 4000000 in
set_option maxRecDepth 100000 in
theorem f_X10_toldBy (l : Launch) (G : va_G) (cI cJ cZ cB cQ : ClassId) (sz : Nat) (ad : AdS) (fm : Option Nat) (h0 : Nat) (i : Nat) (p1 : Int32) (a1 : Int) (p2 : Int32) (a2 : Int) (b : Nat → Nat) (o_thrown : Int32) (o_taped : Int32) (o_size : Int32) (o_at : Int32) (o_from : Int32) (o_token : Int32) (o_value : Int32) (o_faultKind : Int32) (o_faultPlace : Int32) (o_lawNow : Int32) (o_walkSet : Int32) (o_oneWidow : Int32) (o_oneTurn : Int32) (o_askWorst : Int32) (o_mayWalk : Int32) (o_oftenAll : Int64) (o_oftenRoad : Int64) (o_oftenPegs : Int64) (o_f4 : Nat → Int32) (hi_i : i < 34) (hp1 : p1.toInt = a1) (hp2 : p2.toInt = a2) (hl_o_taped : 0 ≤ o_taped.toInt) (hh_o_taped : o_taped.toInt ≤ 900) (hl_o_size : 0 ≤ o_size.toInt) (hh_o_size : o_size.toInt ≤ 900) (hl_o_at : 0 ≤ o_at.toInt) (hh_o_at : o_at.toInt ≤ 900) (hl_o_from : 0 ≤ o_from.toInt) (hh_o_from : o_from.toInt ≤ 900) (hl_o_oneTurn : 0 ≤ o_oneTurn.toInt) (hh_o_oneTurn : o_oneTurn.toInt ≤ 4) : CIs l yX10_toldBy (wl_ yX10_toldBy cX10_toldBy 4 (some .int)) ({ frames := 7, cells := 0, slots := 0, locals := 151 } : Room) G (TY cI cJ cZ cB cQ) [.ref h0, .ref (ad.1 i), .int p1, .int p2] [(h0, oX10 b o_thrown o_taped o_size o_at o_from o_token o_value o_faultKind o_faultPlace o_lawNow o_walkSet o_oneWidow o_oneTurn o_askWorst o_mayWalk o_oftenAll o_oftenRoad o_oftenPegs), (b 4, .inl (cB, 900, .inl o_f4))] sz ad fm (fun (r : Int32) (u : Int32 × Int32 × Int32 × Int32 × Int32 × Int32) => 0 ≤ u.1.toInt ∧ u.1.toInt ≤ 900 ∧ 0 ≤ u.2.1.toInt ∧ u.2.1.toInt ≤ 900 ∧ o_at.toInt ≤ u.1.toInt ∧ ((a1 ≤ r.toInt ∧ r.toInt ≤ a2 ∧ u.2.2.2.2.1.toInt = 0 ∧ o_faultKind.toInt = 0) ∨ (r.toInt = 0 ∧ ¬ u.2.2.2.2.1.toInt = 0))) (fun u : Int32 × Int32 × Int32 × Int32 × Int32 × Int32 => [(h0, oX10 b o_thrown o_taped o_size u.1 u.2.1 u.2.2.1 u.2.2.2.1 u.2.2.2.2.1 u.2.2.2.2.2 o_lawNow o_walkSet o_oneWidow o_oneTurn o_askWorst o_mayWalk o_oftenAll o_oftenRoad o_oftenPegs), (b 4, .inl (cB, 900, .inl o_f4))]) 0 0 := by
  refine CIs.go (cc := cX10_toldBy) (maxL := 4) (ret := (some .int)) (by decide) rfl (Nat.le_of_ble_eq_true rfl) ?_
  intro p e s m below meth c A ls Q hBd hE hret
  obtain ⟨hx, hb, hr, hml, hts, hown, hlk, hnm, hP, hK, hD, hA, hZ, hl⟩ := hBd
  have hown : s.vm.findClass RX10 = some m.cls := hown
  have hl : lv_has ls 4 [(0, .ref h0), (1, .ref (ad.1 i)), (2, .int p1), (3, .int p2)] := hl
  have hS : va_S A s.heap s.heap [] := va_S.rf
  refine lv_aload_n hx hb dX10_toldBy_0 rfl (lv_at hl 0 rfl) ?_
  refine lv_aload_n hx hb dX10_toldBy_1 rfl (lv_at hl 1 rfl) ?_
  refine k_v (wc := [(h0, oX10 b o_thrown o_taped o_size o_at o_from o_token o_value o_faultKind o_faultPlace o_lawNow o_walkSet o_oneWidow o_oneTurn o_askWorst o_mayWalk o_oftenAll o_oftenRoad o_oftenPegs), (b 4, .inl (cB, 900, .inl o_f4))]) (wr := []) hP hD hS hA [0, 1] [] rfl rfl rfl (by decide) (va_runV (As := [.ref (ad.1 i)]) (rest := []) ⟨hx, hb, hml, hown, hts⟩ (f_X10_expects l G cI cJ cZ cB cQ _ ad fm h0 i b o_thrown o_taped o_size o_at o_from o_token o_value o_faultKind o_faultPlace o_lawNow o_walkSet o_oneWidow o_oneTurn o_askWorst o_mayWalk o_oftenAll o_oftenRoad o_oftenPegs o_f4 hi_i hl_o_taped hh_o_taped hl_o_size hh_o_size hl_o_at hh_o_at hl_o_from hh_o_from hl_o_oneTurn hh_o_oneTurn) (cwV 1 hts (gV w_1386 w_1388 wp_88 w_11 w_1389) rfl rfl rfl ⟨rfl, hd_X10_expects⟩ ⟨Nat.le_of_ble_eq_true rfl, Nat.le_of_ble_eq_true rfl⟩) (mVs hK hZ hP hD hE hS hA [0, 1] rfl rfl [.ref (ad.1 i)] 0 10 rfl rfl) rfl rfl hl.1 rfl (lv_room (Nat.le_of_ble_eq_true rfl)) dX10_toldBy_2 ⟨Nat.le_of_ble_eq_true rfl, Nat.le_of_ble_eq_true rfl⟩) (fun u2 H locs hw3 hP hD hS => ?_)
  obtain ⟨o_ato4, o_fromo5, o_tokeno6, o_valueo7, o_faultKindo8, o_faultPlaceo9⟩ := u2
  try dsimp only at hw3
  have hP : va_P G vwCl [(h0, oX10 b o_thrown o_taped o_size o_ato4 o_fromo5 o_tokeno6 o_valueo7 o_faultKindo8 o_faultPlaceo9 o_lawNow o_walkSet o_oneWidow o_oneTurn o_askWorst o_mayWalk o_oftenAll o_oftenRoad o_oftenPegs), (b 4, .inl (cB, 900, .inl o_f4))] H := hP
  have hD : va_D A [(h0, oX10 b o_thrown o_taped o_size o_ato4 o_fromo5 o_tokeno6 o_valueo7 o_faultKindo8 o_faultPlaceo9 o_lawNow o_walkSet o_oneWidow o_oneTurn o_askWorst o_mayWalk o_oftenAll o_oftenRoad o_oftenPegs), (b 4, .inl (cB, 900, .inl o_f4))] := hD
  obtain ⟨w10, w11, w12, w13, w14, w15⟩ : 0 ≤ o_ato4.toInt ∧ o_ato4.toInt ≤ 900 ∧ 0 ≤ o_fromo5.toInt ∧ o_fromo5.toInt ≤ 900 ∧ o_at.toInt ≤ o_ato4.toInt ∧ (o_faultKindo8.toInt = 0 → o_faultKind.toInt = 0) := hw3
  refine lv_aload_n hx hb dX10_toldBy_5 rfl (lv_at hl 0 rfl) ?_
  refine lv_iload_n hx hb dX10_toldBy_6 rfl (lv_at hl 2 rfl) ?_
  refine lv_iload_n hx hb dX10_toldBy_7 rfl (lv_at hl 3 rfl) ?_
  refine k_i (wc := [(h0, oX10 b o_thrown o_taped o_size o_ato4 o_fromo5 o_tokeno6 o_valueo7 o_faultKindo8 o_faultPlaceo9 o_lawNow o_walkSet o_oneWidow o_oneTurn o_askWorst o_mayWalk o_oftenAll o_oftenRoad o_oftenPegs), (b 4, .inl (cB, 900, .inl o_f4))]) (wr := []) hP hD hS hA [0, 1] [] rfl rfl rfl (by decide) (va_runV (As := [.int p1, .int p2]) (rest := []) ⟨hx, hb, hml, hown, hts⟩ (f_X10_number l G cI cJ cZ cB cQ _ h0 p1 a1 p2 a2 b o_thrown o_taped o_size o_ato4 o_fromo5 o_tokeno6 o_valueo7 o_faultKindo8 o_faultPlaceo9 o_lawNow o_walkSet o_oneWidow o_oneTurn o_askWorst o_mayWalk o_oftenAll o_oftenRoad o_oftenPegs o_f4 hp1 hp2 hl_o_taped hh_o_taped hl_o_size hh_o_size w10 w11 w12 w13 hl_o_oneTurn hh_o_oneTurn) (cwV 2 hts (gV w_1409 w_1411 wp_93 w_11 w_1412) rfl rfl rfl ⟨rfl, hd_X10_number⟩ ⟨Nat.le_of_ble_eq_true rfl, Nat.le_of_ble_eq_true rfl⟩) (mV hK hZ hP hD [0, 1] rfl rfl [.int p1, .int p2] 0 10 rfl rfl) rfl rfl hl.1 rfl (lv_room (Nat.le_of_ble_eq_true rfl)) dX10_toldBy_8 ⟨Nat.le_of_ble_eq_true rfl, Nat.le_of_ble_eq_true rfl⟩) (fun r16 u17 H locs hw18 hP hD hS => ?_)
  obtain ⟨o_ato19, o_fromo20, o_tokeno21, o_valueo22, o_faultKindo23, o_faultPlaceo24⟩ := u17
  try dsimp only at hw18
  have hP : va_P G vwCl [(h0, oX10 b o_thrown o_taped o_size o_ato19 o_fromo20 o_tokeno21 o_valueo22 o_faultKindo23 o_faultPlaceo24 o_lawNow o_walkSet o_oneWidow o_oneTurn o_askWorst o_mayWalk o_oftenAll o_oftenRoad o_oftenPegs), (b 4, .inl (cB, 900, .inl o_f4))] H := hP
  have hD : va_D A [(h0, oX10 b o_thrown o_taped o_size o_ato19 o_fromo20 o_tokeno21 o_valueo22 o_faultKindo23 o_faultPlaceo24 o_lawNow o_walkSet o_oneWidow o_oneTurn o_askWorst o_mayWalk o_oftenAll o_oftenRoad o_oftenPegs), (b 4, .inl (cB, 900, .inl o_f4))] := hD
  obtain ⟨w25, w26, w27, w28, w29, w30⟩ : 0 ≤ o_ato19.toInt ∧ o_ato19.toInt ≤ 900 ∧ 0 ≤ o_fromo20.toInt ∧ o_fromo20.toInt ≤ 900 ∧ o_ato4.toInt ≤ o_ato19.toInt ∧ ((a1 ≤ r16.toInt ∧ r16.toInt ≤ a2 ∧ o_faultKindo23.toInt = 0 ∧ o_faultKindo8.toInt = 0) ∨ (r16.toInt = 0 ∧ ¬ o_faultKindo23.toInt = 0)) := hw18
  exact hret _ _ _ _ r16 (o_ato19, o_fromo20, o_tokeno21, o_valueo22, o_faultKindo23, o_faultPlaceo24) hP hD hS dX10_toldBy_11 (show 0 ≤ o_ato19.toInt ∧ o_ato19.toInt ≤ 900 ∧ 0 ≤ o_fromo20.toInt ∧ o_fromo20.toInt ≤ 900 ∧ o_at.toInt ≤ o_ato19.toInt ∧ ((a1 ≤ r16.toInt ∧ r16.toInt ≤ a2 ∧ o_faultKindo23.toInt = 0 ∧ o_faultKind.toInt = 0) ∨ (r16.toInt = 0 ∧ ¬ o_faultKindo23.toInt = 0)) from ⟨w25, w26, w27, w28, (by omega), (by omega)⟩)
set_option maxHeartbeats 4000000 in
set_option maxRecDepth 100000 in
theorem f_X10_fault (l : Launch) (G : va_G) (cI cJ cZ cB cQ : ClassId) (sz : Nat) (h0 : Nat) (p0 : Int32) (a0 : Int) (b : Nat → Nat) (o_thrown : Int32) (o_taped : Int32) (o_size : Int32) (o_at : Int32) (o_from : Int32) (o_token : Int32) (o_value : Int32) (o_faultKind : Int32) (o_faultPlace : Int32) (o_lawNow : Int32) (o_walkSet : Int32) (o_oneWidow : Int32) (o_oneTurn : Int32) (o_askWorst : Int32) (o_mayWalk : Int32) (o_oftenAll : Int64) (o_oftenRoad : Int64) (o_oftenPegs : Int64) (hp0 : p0.toInt = a0) (hl_o_taped : 0 ≤ o_taped.toInt) (hh_o_taped : o_taped.toInt ≤ 900) (hl_o_size : 0 ≤ o_size.toInt) (hh_o_size : o_size.toInt ≤ 900) (hl_o_at : 0 ≤ o_at.toInt) (hh_o_at : o_at.toInt ≤ 900) (hl_o_from : 0 ≤ o_from.toInt) (hh_o_from : o_from.toInt ≤ 900) (hl_o_oneTurn : 0 ≤ o_oneTurn.toInt) (hh_o_oneTurn : o_oneTurn.toInt ≤ 4) : CI l yX10_fault (wl_ yX10_fault cX10_fault 2 (some .int)) ({ frames := 0, cells := 0, slots := 0, locals := 0 } : Room) G (TY cI cJ cZ cB cQ) [.ref h0, .int p0] [(h0, oX10 b o_thrown o_taped o_size o_at o_from o_token o_value o_faultKind o_faultPlace o_lawNow o_walkSet o_oneWidow o_oneTurn o_askWorst o_mayWalk o_oftenAll o_oftenRoad o_oftenPegs)] sz (fun (r : Int32) (u : Unit) => True) (fun _ : Unit => [(h0, oX10 b o_thrown o_taped o_size o_at o_from o_token o_value o_faultKind o_faultPlace o_lawNow o_walkSet o_oneWidow o_oneTurn o_askWorst o_mayWalk o_oftenAll o_oftenRoad o_oftenPegs)]) 0 0 := by
  refine CI.go (cc := cX10_fault) (maxL := 2) (ret := (some .int)) (by decide) rfl (Nat.le_of_ble_eq_true rfl) ?_
  intro p e s m below meth c A ls Q hBd hret
  obtain ⟨hx, hb, hr, hml, hts, hown, hlk, hnm, hP, hK, hD, hA, hZ, hl⟩ := hBd
  have hown : s.vm.findClass RX10 = some m.cls := hown
  have hl : lv_has ls 2 [(0, .ref h0), (1, .int p0)] := hl
  have hS : va_S A s.heap s.heap [] := va_S.rf
  refine lv_iload_n hx hb dX10_fault_0 rfl (lv_at hl 1 rfl) ?_
  refine lv_if_ne (tgt := 11) hx hb dX10_fault_1 (by decide) (fun c1 => ?_) (fun c1 => ?_)
  · have c1 := i_ne hp0 ki_0 c1
    refine lv_iload_n hx hb dX10_fault_11 rfl (lv_at hl 1 rfl) ?_
    refine lv_iconst (v := 1) hx hb dX10_fault_12 (by decide) ?_
    refine lv_icmp_ne (tgt := 23) hx hb dX10_fault_13 (by decide) (fun c2 => ?_) (fun c2 => ?_)
    · have c2 := i_ne hp0 ki_1 c2
      refine lv_iconst (v := (-1)) hx hb dX10_fault_23 (by decide) ?_
      exact hret _ _ _ _ (-1) () hP hD hS dX10_fault_24 trivial
    · have c2 := i_eq hp0 ki_1 c2
      refine lv_aload_n hx hb dX10_fault_16 rfl (lv_at hl 0 rfl) ?_
      refine va_get (D := G) (ci := 10) (v := .int o_faultPlace) (C := RX10) (T := TX10) (N := 46) hx hb hts iG_X10 hown hK hP 0 rfl rfl 13 (by decide) (hts _ w_1205) (fun _ h9 => h9) rfl dX10_fault_17 ?_
      refine lv_goto (tgt := 24) hx hb dX10_fault_20 (by decide) ?_
      exact hret _ _ _ _ o_faultPlace () hP hD hS dX10_fault_24 trivial
  · have c1 := i_eq hp0 ki_0 c1
    refine lv_aload_n hx hb dX10_fault_4 rfl (lv_at hl 0 rfl) ?_
    refine va_get (D := G) (ci := 10) (v := .int o_faultKind) (C := RX10) (T := TX10) (N := 46) hx hb hts iG_X10 hown hK hP 0 rfl rfl 12 (by decide) (hts _ w_1204) (fun _ h9 => h9) rfl dX10_fault_5 ?_
    refine lv_goto (tgt := 24) hx hb dX10_fault_8 (by decide) ?_
    exact hret _ _ _ _ o_faultKind () hP hD hS dX10_fault_24 trivial
set_option maxHeartbeats 4000000 in
set_option maxRecDepth 100000 in
theorem f_X10_readFirst (l : Launch) (G : va_G) (cI cJ cZ cB cQ : ClassId) (sz : Nat) (ad : AdS) (fm : Option Nat) (h0 : Nat) (b : Nat → Nat) (o_thrown : Int32) (o_taped : Int32) (o_size : Int32) (o_at : Int32) (o_from : Int32) (o_token : Int32) (o_value : Int32) (o_faultKind : Int32) (o_faultPlace : Int32) (o_lawNow : Int32) (o_walkSet : Int32) (o_oneWidow : Int32) (o_oneTurn : Int32) (o_askWorst : Int32) (o_mayWalk : Int32) (o_oftenAll : Int64) (o_oftenRoad : Int64) (o_oftenPegs : Int64) (o_f4 : Nat → Int32) (o_f14 : Nat → Int32) (h7 : (o_f14 7).toInt = 0) (hl_o_taped : 0 ≤ o_taped.toInt) (hh_o_taped : o_taped.toInt ≤ 900) (hl_o_size : 0 ≤ o_size.toInt) (hh_o_size : o_size.toInt ≤ 900) (hl_o_at : 0 ≤ o_at.toInt) (hh_o_at : o_at.toInt ≤ 900) (hl_o_from : 0 ≤ o_from.toInt) (hh_o_from : o_from.toInt ≤ 900) (hl_o_oneTurn : 0 ≤ o_oneTurn.toInt) (hh_o_oneTurn : o_oneTurn.toInt ≤ 4) (ha_o_f14 : WB o_f14) : CVs l yX10_readFirst (wl_ yX10_readFirst cX10_readFirst 1 none) ({ frames := 8, cells := 0, slots := 0, locals := 174 } : Room) G (TY cI cJ cZ cB cQ) [.ref h0] [(h0, oX10 b o_thrown o_taped o_size o_at o_from o_token o_value o_faultKind o_faultPlace o_lawNow o_walkSet o_oneWidow o_oneTurn o_askWorst o_mayWalk o_oftenAll o_oftenRoad o_oftenPegs), (b 4, .inl (cB, 900, .inl o_f4)), (b 14, .inl (cI, 149, .inl o_f14))] sz ad fm (fun (u : Int32 × Int32 × Int32 × Int32 × Int32 × Int32 × (Nat → Int32)) => 0 ≤ u.1.toInt ∧ u.1.toInt ≤ 900 ∧ 0 ≤ u.2.1.toInt ∧ u.2.1.toInt ≤ 900 ∧ WB u.2.2.2.2.2.2 ∧ o_at.toInt ≤ u.1.toInt ∧ (u.2.2.2.2.1.toInt = 0 → o_faultKind.toInt = 0) ∧ (u.2.2.2.2.2.2 7).toInt = (o_f14 7).toInt ∧ (u.2.2.2.2.2.2 9).toInt = (o_f14 9).toInt) (fun u : Int32 × Int32 × Int32 × Int32 × Int32 × Int32 × (Nat → Int32) => [(h0, oX10 b o_thrown o_taped o_size u.1 u.2.1 u.2.2.1 u.2.2.2.1 u.2.2.2.2.1 u.2.2.2.2.2.1 o_lawNow o_walkSet o_oneWidow o_oneTurn o_askWorst o_mayWalk o_oftenAll o_oftenRoad o_oftenPegs), (b 4, .inl (cB, 900, .inl o_f4)), (b 14, .inl (cI, 149, .inl u.2.2.2.2.2.2))]) 0 0 := by
  refine CVs.go (cc := cX10_readFirst) (maxL := 1) (ret := none) (by decide) rfl (Nat.le_of_ble_eq_true rfl) ?_
  intro p e s m below meth c A ls Q hBd hE hret
  obtain ⟨hx, hb, hr, hml, hts, hown, hlk, hnm, hP, hK, hD, hA, hZ, hl⟩ := hBd
  have hown : s.vm.findClass RX10 = some m.cls := hown
  have hl : lv_has ls 1 [(0, .ref h0)] := hl
  have hS : va_S A s.heap s.heap [] := va_S.rf
  refine lv_aload_n hx hb dX10_readFirst_0 rfl (lv_at hl 0 rfl) ?_
  refine va_ldcS hx hb hown (show vk_R "WidowRoadsModel" 196 "colony" (ad.1 17) s from hE.2.2.2 17 (by decide)) dX10_readFirst_1 ?_
  refine k_v (wc := [(h0, oX10 b o_thrown o_taped o_size o_at o_from o_token o_value o_faultKind o_faultPlace o_lawNow o_walkSet o_oneWidow o_oneTurn o_askWorst o_mayWalk o_oftenAll o_oftenRoad o_oftenPegs), (b 4, .inl (cB, 900, .inl o_f4))]) (wr := [(b 14, .inl (cI, 149, .inl o_f14))]) hP hD hS hA [0, 1] [2] rfl rfl rfl (by decide) (va_runV (As := [.ref (ad.1 17)]) (rest := []) ⟨hx, hb, hml, hown, hts⟩ (f_X10_expects l G cI cJ cZ cB cQ _ ad fm h0 17 b o_thrown o_taped o_size o_at o_from o_token o_value o_faultKind o_faultPlace o_lawNow o_walkSet o_oneWidow o_oneTurn o_askWorst o_mayWalk o_oftenAll o_oftenRoad o_oftenPegs o_f4 (by decide) hl_o_taped hh_o_taped hl_o_size hh_o_size hl_o_at hh_o_at hl_o_from hh_o_from hl_o_oneTurn hh_o_oneTurn) (cwV 1 hts (gV w_1386 w_1388 wp_88 w_11 w_1389) rfl rfl rfl ⟨rfl, hd_X10_expects⟩ ⟨Nat.le_of_ble_eq_true rfl, Nat.le_of_ble_eq_true rfl⟩) (mVs hK hZ hP hD hE hS hA [0, 1] rfl rfl [.ref (ad.1 17)] 0 10 rfl rfl) rfl rfl hl.1 rfl (lv_room (Nat.le_of_ble_eq_true rfl)) dX10_readFirst_3 ⟨Nat.le_of_ble_eq_true rfl, Nat.le_of_ble_eq_true rfl⟩) (fun u2 H locs hw3 hP hD hS => ?_)
  obtain ⟨o_ato4, o_fromo5, o_tokeno6, o_valueo7, o_faultKindo8, o_faultPlaceo9⟩ := u2
  try dsimp only at hw3
  have hP : va_P G vwCl [(b 14, .inl (cI, 149, .inl o_f14)), (h0, oX10 b o_thrown o_taped o_size o_ato4 o_fromo5 o_tokeno6 o_valueo7 o_faultKindo8 o_faultPlaceo9 o_lawNow o_walkSet o_oneWidow o_oneTurn o_askWorst o_mayWalk o_oftenAll o_oftenRoad o_oftenPegs), (b 4, .inl (cB, 900, .inl o_f4))] H := hP
  have hD : va_D A [(b 14, .inl (cI, 149, .inl o_f14)), (h0, oX10 b o_thrown o_taped o_size o_ato4 o_fromo5 o_tokeno6 o_valueo7 o_faultKindo8 o_faultPlaceo9 o_lawNow o_walkSet o_oneWidow o_oneTurn o_askWorst o_mayWalk o_oftenAll o_oftenRoad o_oftenPegs), (b 4, .inl (cB, 900, .inl o_f4))] := hD
  obtain ⟨w10, w11, w12, w13, w14, w15⟩ : 0 ≤ o_ato4.toInt ∧ o_ato4.toInt ≤ 900 ∧ 0 ≤ o_fromo5.toInt ∧ o_fromo5.toInt ≤ 900 ∧ o_at.toInt ≤ o_ato4.toInt ∧ (o_faultKindo8.toInt = 0 → o_faultKind.toInt = 0) := hw3
  refine lv_aload_n hx hb dX10_readFirst_6 rfl (lv_at hl 0 rfl) ?_
  refine va_get (D := G) (ci := 10) (v := .ref (b 14)) (C := RX10) (T := TX10) (N := 46) hx hb hts iG_X10 hown hK hP 1 rfl rfl 14 (by decide) (hts _ w_1206) (fun _ h9 => h9) rfl dX10_readFirst_7 ?_
  refine lv_iconst (v := 0) hx hb dX10_readFirst_10 (by decide) ?_
  refine lv_aload_n hx hb dX10_readFirst_11 rfl (lv_at hl 0 rfl) ?_
  refine va_ldcS hx hb hown (show vk_R "WidowRoadsModel" 198 "years" (ad.1 18) s from hE.2.2.2 18 (by decide)) dX10_readFirst_12 ?_
  refine lv_iconst (v := 1) hx hb dX10_readFirst_14 (by decide) ?_
  refine lv_bipush (v := 12) hx hb dX10_readFirst_15 (by decide) ?_
  refine k_i (wc := [(h0, oX10 b o_thrown o_taped o_size o_ato4 o_fromo5 o_tokeno6 o_valueo7 o_faultKindo8 o_faultPlaceo9 o_lawNow o_walkSet o_oneWidow o_oneTurn o_askWorst o_mayWalk o_oftenAll o_oftenRoad o_oftenPegs), (b 4, .inl (cB, 900, .inl o_f4))]) (wr := [(b 14, .inl (cI, 149, .inl o_f14))]) hP hD hS hA [1, 2] [0] rfl rfl rfl (by decide) (va_runV (As := [.ref (ad.1 18), .int 1, .int 12]) (rest := [.int 0, .ref (b 14)]) ⟨hx, hb, hml, hown, hts⟩ (f_X10_toldBy l G cI cJ cZ cB cQ _ ad fm h0 18 1 1 12 12 b o_thrown o_taped o_size o_ato4 o_fromo5 o_tokeno6 o_valueo7 o_faultKindo8 o_faultPlaceo9 o_lawNow o_walkSet o_oneWidow o_oneTurn o_askWorst o_mayWalk o_oftenAll o_oftenRoad o_oftenPegs o_f4 (by decide) ki_1 ki_12 hl_o_taped hh_o_taped hl_o_size hh_o_size w10 w11 w12 w13 hl_o_oneTurn hh_o_oneTurn) (cwV 3 hts (gV w_1405 w_1407 wp_92 w_11 w_1408) rfl rfl rfl ⟨rfl, hd_X10_toldBy⟩ ⟨Nat.le_of_ble_eq_true rfl, Nat.le_of_ble_eq_true rfl⟩) (mVs hK hZ hP hD hE hS hA [1, 2] rfl rfl [.ref (ad.1 18), .int 1, .int 12] 1 10 rfl rfl) rfl rfl hl.1 rfl (lv_room (Nat.le_of_ble_eq_true rfl)) dX10_readFirst_17 ⟨Nat.le_of_ble_eq_true rfl, Nat.le_of_ble_eq_true rfl⟩) (fun r16 u17 H locs hw18 hP hD hS => ?_)
  obtain ⟨o_ato19, o_fromo20, o_tokeno21, o_valueo22, o_faultKindo23, o_faultPlaceo24⟩ := u17
  try dsimp only at hw18
  have hP : va_P G vwCl [(b 14, .inl (cI, 149, .inl o_f14)), (h0, oX10 b o_thrown o_taped o_size o_ato19 o_fromo20 o_tokeno21 o_valueo22 o_faultKindo23 o_faultPlaceo24 o_lawNow o_walkSet o_oneWidow o_oneTurn o_askWorst o_mayWalk o_oftenAll o_oftenRoad o_oftenPegs), (b 4, .inl (cB, 900, .inl o_f4))] H := hP
  have hD : va_D A [(b 14, .inl (cI, 149, .inl o_f14)), (h0, oX10 b o_thrown o_taped o_size o_ato19 o_fromo20 o_tokeno21 o_valueo22 o_faultKindo23 o_faultPlaceo24 o_lawNow o_walkSet o_oneWidow o_oneTurn o_askWorst o_mayWalk o_oftenAll o_oftenRoad o_oftenPegs), (b 4, .inl (cB, 900, .inl o_f4))] := hD
  obtain ⟨w25, w26, w27, w28, w29, w30⟩ : 0 ≤ o_ato19.toInt ∧ o_ato19.toInt ≤ 900 ∧ 0 ≤ o_fromo20.toInt ∧ o_fromo20.toInt ≤ 900 ∧ o_ato4.toInt ≤ o_ato19.toInt ∧ ((1 ≤ r16.toInt ∧ r16.toInt ≤ 12 ∧ o_faultKindo23.toInt = 0 ∧ o_faultKindo8.toInt = 0) ∨ (r16.toInt = 0 ∧ ¬ o_faultKindo23.toInt = 0)) := hw18
  refine va_iast hx hb hK hP hD hS 0 0 rfl rfl (ix_in ki_0 (by omega) (by omega)) dX10_readFirst_20 (fun H locs hP hD hS => ?_)
  obtain ⟨f31, qf31⟩ : ∃ g, g = upd o_f14 (0 : Int32).toNatClampNeg r16 := ⟨_, rfl⟩
  rw [← qf31] at hP hD
  have hb31 : WB f31 := by rw [qf31]; exact WB_putc 0 12 ha_o_f14 rfl rfl (by decide) rfl (by omega) (by omega)
  have kf31_3 : (f31 3).toInt = (o_f14 3).toInt := by rw [qf31, pk_un (by decide)]
  have kf31_4 : (f31 4).toInt = (o_f14 4).toInt := by rw [qf31, pk_un (by decide)]
  have kf31_5 : (f31 5).toInt = (o_f14 5).toInt := by rw [qf31, pk_un (by decide)]
  have kf31_6 : (f31 6).toInt = (o_f14 6).toInt := by rw [qf31, pk_un (by decide)]
  have kf31_7 : (f31 7).toInt = (o_f14 7).toInt := by rw [qf31, pk_un (by decide)]
  have kf31_9 : (f31 9).toInt = (o_f14 9).toInt := by rw [qf31, pk_un (by decide)]
  have hP : va_P G vwCl [(b 14, .inl (cI, 149, .inl f31)), (h0, oX10 b o_thrown o_taped o_size o_ato19 o_fromo20 o_tokeno21 o_valueo22 o_faultKindo23 o_faultPlaceo24 o_lawNow o_walkSet o_oneWidow o_oneTurn o_askWorst o_mayWalk o_oftenAll o_oftenRoad o_oftenPegs), (b 4, .inl (cB, 900, .inl o_f4))] H := hP
  have hD : va_D A [(b 14, .inl (cI, 149, .inl f31)), (h0, oX10 b o_thrown o_taped o_size o_ato19 o_fromo20 o_tokeno21 o_valueo22 o_faultKindo23 o_faultPlaceo24 o_lawNow o_walkSet o_oneWidow o_oneTurn o_askWorst o_mayWalk o_oftenAll o_oftenRoad o_oftenPegs), (b 4, .inl (cB, 900, .inl o_f4))] := hD
  refine lv_aload_n hx hb dX10_readFirst_21 rfl (lv_at hl 0 rfl) ?_
  refine va_get (D := G) (ci := 10) (v := .ref (b 14)) (C := RX10) (T := TX10) (N := 46) hx hb hts iG_X10 hown hK hP 1 rfl rfl 14 (by decide) (hts _ w_1206) (fun _ h9 => h9) rfl dX10_readFirst_22 ?_
  refine lv_iconst (v := 1) hx hb dX10_readFirst_25 (by decide) ?_
  refine lv_aload_n hx hb dX10_readFirst_26 rfl (lv_at hl 0 rfl) ?_
  refine va_ldcS hx hb hown (show vk_R "WidowRoadsModel" 203 "law" (ad.1 19) s from hE.2.2.2 19 (by decide)) dX10_readFirst_27 ?_
  refine lv_iconst (v := 0) hx hb dX10_readFirst_29 (by decide) ?_
  refine lv_iconst (v := 3) hx hb dX10_readFirst_30 (by decide) ?_
  refine k_i (wc := [(h0, oX10 b o_thrown o_taped o_size o_ato19 o_fromo20 o_tokeno21 o_valueo22 o_faultKindo23 o_faultPlaceo24 o_lawNow o_walkSet o_oneWidow o_oneTurn o_askWorst o_mayWalk o_oftenAll o_oftenRoad o_oftenPegs), (b 4, .inl (cB, 900, .inl o_f4))]) (wr := [(b 14, .inl (cI, 149, .inl f31))]) hP hD hS hA [1, 2] [0] rfl rfl rfl (by decide) (va_runV (As := [.ref (ad.1 19), .int 0, .int 3]) (rest := [.int 1, .ref (b 14)]) ⟨hx, hb, hml, hown, hts⟩ (f_X10_toldBy l G cI cJ cZ cB cQ _ ad fm h0 19 0 0 3 3 b o_thrown o_taped o_size o_ato19 o_fromo20 o_tokeno21 o_valueo22 o_faultKindo23 o_faultPlaceo24 o_lawNow o_walkSet o_oneWidow o_oneTurn o_askWorst o_mayWalk o_oftenAll o_oftenRoad o_oftenPegs o_f4 (by decide) ki_0 ki_3 hl_o_taped hh_o_taped hl_o_size hh_o_size w25 w26 w27 w28 hl_o_oneTurn hh_o_oneTurn) (cwV 3 hts (gV w_1405 w_1407 wp_92 w_11 w_1408) rfl rfl rfl ⟨rfl, hd_X10_toldBy⟩ ⟨Nat.le_of_ble_eq_true rfl, Nat.le_of_ble_eq_true rfl⟩) (mVs hK hZ hP hD hE hS hA [1, 2] rfl rfl [.ref (ad.1 19), .int 0, .int 3] 1 10 rfl rfl) rfl rfl hl.1 rfl (lv_room (Nat.le_of_ble_eq_true rfl)) dX10_readFirst_31 ⟨Nat.le_of_ble_eq_true rfl, Nat.le_of_ble_eq_true rfl⟩) (fun r33 u34 H locs hw35 hP hD hS => ?_)
  obtain ⟨o_ato36, o_fromo37, o_tokeno38, o_valueo39, o_faultKindo40, o_faultPlaceo41⟩ := u34
  try dsimp only at hw35
  have hP : va_P G vwCl [(b 14, .inl (cI, 149, .inl f31)), (h0, oX10 b o_thrown o_taped o_size o_ato36 o_fromo37 o_tokeno38 o_valueo39 o_faultKindo40 o_faultPlaceo41 o_lawNow o_walkSet o_oneWidow o_oneTurn o_askWorst o_mayWalk o_oftenAll o_oftenRoad o_oftenPegs), (b 4, .inl (cB, 900, .inl o_f4))] H := hP
  have hD : va_D A [(b 14, .inl (cI, 149, .inl f31)), (h0, oX10 b o_thrown o_taped o_size o_ato36 o_fromo37 o_tokeno38 o_valueo39 o_faultKindo40 o_faultPlaceo41 o_lawNow o_walkSet o_oneWidow o_oneTurn o_askWorst o_mayWalk o_oftenAll o_oftenRoad o_oftenPegs), (b 4, .inl (cB, 900, .inl o_f4))] := hD
  obtain ⟨w42, w43, w44, w45, w46, w47⟩ : 0 ≤ o_ato36.toInt ∧ o_ato36.toInt ≤ 900 ∧ 0 ≤ o_fromo37.toInt ∧ o_fromo37.toInt ≤ 900 ∧ o_ato19.toInt ≤ o_ato36.toInt ∧ ((0 ≤ r33.toInt ∧ r33.toInt ≤ 3 ∧ o_faultKindo40.toInt = 0 ∧ o_faultKindo23.toInt = 0) ∨ (r33.toInt = 0 ∧ ¬ o_faultKindo40.toInt = 0)) := hw35
  refine va_iast hx hb hK hP hD hS 0 0 rfl rfl (ix_in ki_1 (by omega) (by omega)) dX10_readFirst_34 (fun H locs hP hD hS => ?_)
  obtain ⟨f48, qf48⟩ : ∃ g, g = upd f31 (1 : Int32).toNatClampNeg r33 := ⟨_, rfl⟩
  rw [← qf48] at hP hD
  have hb48 : WB f48 := by rw [qf48]; exact WB_putc 1 3 hb31 rfl rfl (by decide) rfl (by omega) (by omega)
  have kf48_3 : (f48 3).toInt = (f31 3).toInt := by rw [qf48, pk_un (by decide)]
  have kf48_4 : (f48 4).toInt = (f31 4).toInt := by rw [qf48, pk_un (by decide)]
  have kf48_5 : (f48 5).toInt = (f31 5).toInt := by rw [qf48, pk_un (by decide)]
  have kf48_6 : (f48 6).toInt = (f31 6).toInt := by rw [qf48, pk_un (by decide)]
  have kf48_7 : (f48 7).toInt = (f31 7).toInt := by rw [qf48, pk_un (by decide)]
  have kf48_9 : (f48 9).toInt = (f31 9).toInt := by rw [qf48, pk_un (by decide)]
  have hP : va_P G vwCl [(b 14, .inl (cI, 149, .inl f48)), (h0, oX10 b o_thrown o_taped o_size o_ato36 o_fromo37 o_tokeno38 o_valueo39 o_faultKindo40 o_faultPlaceo41 o_lawNow o_walkSet o_oneWidow o_oneTurn o_askWorst o_mayWalk o_oftenAll o_oftenRoad o_oftenPegs), (b 4, .inl (cB, 900, .inl o_f4))] H := hP
  have hD : va_D A [(b 14, .inl (cI, 149, .inl f48)), (h0, oX10 b o_thrown o_taped o_size o_ato36 o_fromo37 o_tokeno38 o_valueo39 o_faultKindo40 o_faultPlaceo41 o_lawNow o_walkSet o_oneWidow o_oneTurn o_askWorst o_mayWalk o_oftenAll o_oftenRoad o_oftenPegs), (b 4, .inl (cB, 900, .inl o_f4))] := hD
  refine lv_aload_n hx hb dX10_readFirst_35 rfl (lv_at hl 0 rfl) ?_
  refine va_get (D := G) (ci := 10) (v := .ref (b 14)) (C := RX10) (T := TX10) (N := 46) hx hb hts iG_X10 hown hK hP 1 rfl rfl 14 (by decide) (hts _ w_1206) (fun _ h9 => h9) rfl dX10_readFirst_36 ?_
  refine lv_iconst (v := 2) hx hb dX10_readFirst_39 (by decide) ?_
  refine lv_aload_n hx hb dX10_readFirst_40 rfl (lv_at hl 0 rfl) ?_
  refine va_ldcS hx hb hown (show vk_R "WidowRoadsModel" 205 "odds" (ad.1 20) s from hE.2.2.2 20 (by decide)) dX10_readFirst_41 ?_
  refine lv_iconst (v := 0) hx hb dX10_readFirst_43 (by decide) ?_
  refine lv_bipush (v := 10) hx hb dX10_readFirst_44 (by decide) ?_
  refine k_i (wc := [(h0, oX10 b o_thrown o_taped o_size o_ato36 o_fromo37 o_tokeno38 o_valueo39 o_faultKindo40 o_faultPlaceo41 o_lawNow o_walkSet o_oneWidow o_oneTurn o_askWorst o_mayWalk o_oftenAll o_oftenRoad o_oftenPegs), (b 4, .inl (cB, 900, .inl o_f4))]) (wr := [(b 14, .inl (cI, 149, .inl f48))]) hP hD hS hA [1, 2] [0] rfl rfl rfl (by decide) (va_runV (As := [.ref (ad.1 20), .int 0, .int 10]) (rest := [.int 2, .ref (b 14)]) ⟨hx, hb, hml, hown, hts⟩ (f_X10_toldBy l G cI cJ cZ cB cQ _ ad fm h0 20 0 0 10 10 b o_thrown o_taped o_size o_ato36 o_fromo37 o_tokeno38 o_valueo39 o_faultKindo40 o_faultPlaceo41 o_lawNow o_walkSet o_oneWidow o_oneTurn o_askWorst o_mayWalk o_oftenAll o_oftenRoad o_oftenPegs o_f4 (by decide) ki_0 ki_10 hl_o_taped hh_o_taped hl_o_size hh_o_size w42 w43 w44 w45 hl_o_oneTurn hh_o_oneTurn) (cwV 3 hts (gV w_1405 w_1407 wp_92 w_11 w_1408) rfl rfl rfl ⟨rfl, hd_X10_toldBy⟩ ⟨Nat.le_of_ble_eq_true rfl, Nat.le_of_ble_eq_true rfl⟩) (mVs hK hZ hP hD hE hS hA [1, 2] rfl rfl [.ref (ad.1 20), .int 0, .int 10] 1 10 rfl rfl) rfl rfl hl.1 rfl (lv_room (Nat.le_of_ble_eq_true rfl)) dX10_readFirst_46 ⟨Nat.le_of_ble_eq_true rfl, Nat.le_of_ble_eq_true rfl⟩) (fun r50 u51 H locs hw52 hP hD hS => ?_)
  obtain ⟨o_ato53, o_fromo54, o_tokeno55, o_valueo56, o_faultKindo57, o_faultPlaceo58⟩ := u51
  try dsimp only at hw52
  have hP : va_P G vwCl [(b 14, .inl (cI, 149, .inl f48)), (h0, oX10 b o_thrown o_taped o_size o_ato53 o_fromo54 o_tokeno55 o_valueo56 o_faultKindo57 o_faultPlaceo58 o_lawNow o_walkSet o_oneWidow o_oneTurn o_askWorst o_mayWalk o_oftenAll o_oftenRoad o_oftenPegs), (b 4, .inl (cB, 900, .inl o_f4))] H := hP
  have hD : va_D A [(b 14, .inl (cI, 149, .inl f48)), (h0, oX10 b o_thrown o_taped o_size o_ato53 o_fromo54 o_tokeno55 o_valueo56 o_faultKindo57 o_faultPlaceo58 o_lawNow o_walkSet o_oneWidow o_oneTurn o_askWorst o_mayWalk o_oftenAll o_oftenRoad o_oftenPegs), (b 4, .inl (cB, 900, .inl o_f4))] := hD
  obtain ⟨w59, w60, w61, w62, w63, w64⟩ : 0 ≤ o_ato53.toInt ∧ o_ato53.toInt ≤ 900 ∧ 0 ≤ o_fromo54.toInt ∧ o_fromo54.toInt ≤ 900 ∧ o_ato36.toInt ≤ o_ato53.toInt ∧ ((0 ≤ r50.toInt ∧ r50.toInt ≤ 10 ∧ o_faultKindo57.toInt = 0 ∧ o_faultKindo40.toInt = 0) ∨ (r50.toInt = 0 ∧ ¬ o_faultKindo57.toInt = 0)) := hw52
  refine va_iast hx hb hK hP hD hS 0 0 rfl rfl (ix_in ki_2 (by omega) (by omega)) dX10_readFirst_49 (fun H locs hP hD hS => ?_)
  obtain ⟨f65, qf65⟩ : ∃ g, g = upd f48 (2 : Int32).toNatClampNeg r50 := ⟨_, rfl⟩
  rw [← qf65] at hP hD
  have hb65 : WB f65 := by rw [qf65]; exact WB_putc 2 10 hb48 rfl rfl (by decide) rfl (by omega) (by omega)
  have kf65_3 : (f65 3).toInt = (f48 3).toInt := by rw [qf65, pk_un (by decide)]
  have kf65_4 : (f65 4).toInt = (f48 4).toInt := by rw [qf65, pk_un (by decide)]
  have kf65_5 : (f65 5).toInt = (f48 5).toInt := by rw [qf65, pk_un (by decide)]
  have kf65_6 : (f65 6).toInt = (f48 6).toInt := by rw [qf65, pk_un (by decide)]
  have kf65_7 : (f65 7).toInt = (f48 7).toInt := by rw [qf65, pk_un (by decide)]
  have kf65_9 : (f65 9).toInt = (f48 9).toInt := by rw [qf65, pk_un (by decide)]
  have hP : va_P G vwCl [(b 14, .inl (cI, 149, .inl f65)), (h0, oX10 b o_thrown o_taped o_size o_ato53 o_fromo54 o_tokeno55 o_valueo56 o_faultKindo57 o_faultPlaceo58 o_lawNow o_walkSet o_oneWidow o_oneTurn o_askWorst o_mayWalk o_oftenAll o_oftenRoad o_oftenPegs), (b 4, .inl (cB, 900, .inl o_f4))] H := hP
  have hD : va_D A [(b 14, .inl (cI, 149, .inl f65)), (h0, oX10 b o_thrown o_taped o_size o_ato53 o_fromo54 o_tokeno55 o_valueo56 o_faultKindo57 o_faultPlaceo58 o_lawNow o_walkSet o_oneWidow o_oneTurn o_askWorst o_mayWalk o_oftenAll o_oftenRoad o_oftenPegs), (b 4, .inl (cB, 900, .inl o_f4))] := hD
  refine lv_aload_n hx hb dX10_readFirst_50 rfl (lv_at hl 0 rfl) ?_
  refine va_get (D := G) (ci := 10) (v := .ref (b 14)) (C := RX10) (T := TX10) (N := 46) hx hb hts iG_X10 hown hK hP 1 rfl rfl 14 (by decide) (hts _ w_1206) (fun _ h9 => h9) rfl dX10_readFirst_51 ?_
  refine lv_iconst (v := 3) hx hb dX10_readFirst_54 (by decide) ?_
  refine lv_aload_n hx hb dX10_readFirst_55 rfl (lv_at hl 0 rfl) ?_
  refine va_ldcS hx hb hown (show vk_R "WidowRoadsModel" 207 "wide" (ad.1 21) s from hE.2.2.2 21 (by decide)) dX10_readFirst_56 ?_
  refine lv_iconst (v := 2) hx hb dX10_readFirst_58 (by decide) ?_
  refine lv_bipush (v := 8) hx hb dX10_readFirst_59 (by decide) ?_
  refine k_i (wc := [(h0, oX10 b o_thrown o_taped o_size o_ato53 o_fromo54 o_tokeno55 o_valueo56 o_faultKindo57 o_faultPlaceo58 o_lawNow o_walkSet o_oneWidow o_oneTurn o_askWorst o_mayWalk o_oftenAll o_oftenRoad o_oftenPegs), (b 4, .inl (cB, 900, .inl o_f4))]) (wr := [(b 14, .inl (cI, 149, .inl f65))]) hP hD hS hA [1, 2] [0] rfl rfl rfl (by decide) (va_runV (As := [.ref (ad.1 21), .int 2, .int 8]) (rest := [.int 3, .ref (b 14)]) ⟨hx, hb, hml, hown, hts⟩ (f_X10_toldBy l G cI cJ cZ cB cQ _ ad fm h0 21 2 2 8 8 b o_thrown o_taped o_size o_ato53 o_fromo54 o_tokeno55 o_valueo56 o_faultKindo57 o_faultPlaceo58 o_lawNow o_walkSet o_oneWidow o_oneTurn o_askWorst o_mayWalk o_oftenAll o_oftenRoad o_oftenPegs o_f4 (by decide) ki_2 ki_8 hl_o_taped hh_o_taped hl_o_size hh_o_size w59 w60 w61 w62 hl_o_oneTurn hh_o_oneTurn) (cwV 3 hts (gV w_1405 w_1407 wp_92 w_11 w_1408) rfl rfl rfl ⟨rfl, hd_X10_toldBy⟩ ⟨Nat.le_of_ble_eq_true rfl, Nat.le_of_ble_eq_true rfl⟩) (mVs hK hZ hP hD hE hS hA [1, 2] rfl rfl [.ref (ad.1 21), .int 2, .int 8] 1 10 rfl rfl) rfl rfl hl.1 rfl (lv_room (Nat.le_of_ble_eq_true rfl)) dX10_readFirst_61 ⟨Nat.le_of_ble_eq_true rfl, Nat.le_of_ble_eq_true rfl⟩) (fun r67 u68 H locs hw69 hP hD hS => ?_)
  obtain ⟨o_ato70, o_fromo71, o_tokeno72, o_valueo73, o_faultKindo74, o_faultPlaceo75⟩ := u68
  try dsimp only at hw69
  have hP : va_P G vwCl [(b 14, .inl (cI, 149, .inl f65)), (h0, oX10 b o_thrown o_taped o_size o_ato70 o_fromo71 o_tokeno72 o_valueo73 o_faultKindo74 o_faultPlaceo75 o_lawNow o_walkSet o_oneWidow o_oneTurn o_askWorst o_mayWalk o_oftenAll o_oftenRoad o_oftenPegs), (b 4, .inl (cB, 900, .inl o_f4))] H := hP
  have hD : va_D A [(b 14, .inl (cI, 149, .inl f65)), (h0, oX10 b o_thrown o_taped o_size o_ato70 o_fromo71 o_tokeno72 o_valueo73 o_faultKindo74 o_faultPlaceo75 o_lawNow o_walkSet o_oneWidow o_oneTurn o_askWorst o_mayWalk o_oftenAll o_oftenRoad o_oftenPegs), (b 4, .inl (cB, 900, .inl o_f4))] := hD
  obtain ⟨w76, w77, w78, w79, w80, w81⟩ : 0 ≤ o_ato70.toInt ∧ o_ato70.toInt ≤ 900 ∧ 0 ≤ o_fromo71.toInt ∧ o_fromo71.toInt ≤ 900 ∧ o_ato53.toInt ≤ o_ato70.toInt ∧ ((2 ≤ r67.toInt ∧ r67.toInt ≤ 8 ∧ o_faultKindo74.toInt = 0 ∧ o_faultKindo57.toInt = 0) ∨ (r67.toInt = 0 ∧ ¬ o_faultKindo74.toInt = 0)) := hw69
  refine va_iast hx hb hK hP hD hS 0 0 rfl rfl (ix_in ki_3 (by omega) (by omega)) dX10_readFirst_64 (fun H locs hP hD hS => ?_)
  obtain ⟨f82, qf82⟩ : ∃ g, g = upd f65 (3 : Int32).toNatClampNeg r67 := ⟨_, rfl⟩
  rw [← qf82] at hP hD
  have hb82 : WB f82 := by rw [qf82]; exact WB_putc 3 8 hb65 rfl rfl (by decide) rfl (by omega) (by omega)
  have kf82_3 : (f82 3).toInt = r67.toInt := by rw [qf82]; exact rfl
  have kf82_4 : (f82 4).toInt = (f65 4).toInt := by rw [qf82, pk_un (by decide)]
  have kf82_5 : (f82 5).toInt = (f65 5).toInt := by rw [qf82, pk_un (by decide)]
  have kf82_6 : (f82 6).toInt = (f65 6).toInt := by rw [qf82, pk_un (by decide)]
  have kf82_7 : (f82 7).toInt = (f65 7).toInt := by rw [qf82, pk_un (by decide)]
  have kf82_9 : (f82 9).toInt = (f65 9).toInt := by rw [qf82, pk_un (by decide)]
  have hP : va_P G vwCl [(b 14, .inl (cI, 149, .inl f82)), (h0, oX10 b o_thrown o_taped o_size o_ato70 o_fromo71 o_tokeno72 o_valueo73 o_faultKindo74 o_faultPlaceo75 o_lawNow o_walkSet o_oneWidow o_oneTurn o_askWorst o_mayWalk o_oftenAll o_oftenRoad o_oftenPegs), (b 4, .inl (cB, 900, .inl o_f4))] H := hP
  have hD : va_D A [(b 14, .inl (cI, 149, .inl f82)), (h0, oX10 b o_thrown o_taped o_size o_ato70 o_fromo71 o_tokeno72 o_valueo73 o_faultKindo74 o_faultPlaceo75 o_lawNow o_walkSet o_oneWidow o_oneTurn o_askWorst o_mayWalk o_oftenAll o_oftenRoad o_oftenPegs), (b 4, .inl (cB, 900, .inl o_f4))] := hD
  refine lv_aload_n hx hb dX10_readFirst_65 rfl (lv_at hl 0 rfl) ?_
  refine va_get (D := G) (ci := 10) (v := .ref (b 14)) (C := RX10) (T := TX10) (N := 46) hx hb hts iG_X10 hown hK hP 1 rfl rfl 14 (by decide) (hts _ w_1206) (fun _ h9 => h9) rfl dX10_readFirst_66 ?_
  refine lv_iconst (v := 4) hx hb dX10_readFirst_69 (by decide) ?_
  refine lv_aload_n hx hb dX10_readFirst_70 rfl (lv_at hl 0 rfl) ?_
  refine va_ldcS hx hb hown (show vk_R "WidowRoadsModel" 209 "high" (ad.1 22) s from hE.2.2.2 22 (by decide)) dX10_readFirst_71 ?_
  refine lv_iconst (v := 2) hx hb dX10_readFirst_73 (by decide) ?_
  refine lv_bipush (v := 8) hx hb dX10_readFirst_74 (by decide) ?_
  refine k_i (wc := [(h0, oX10 b o_thrown o_taped o_size o_ato70 o_fromo71 o_tokeno72 o_valueo73 o_faultKindo74 o_faultPlaceo75 o_lawNow o_walkSet o_oneWidow o_oneTurn o_askWorst o_mayWalk o_oftenAll o_oftenRoad o_oftenPegs), (b 4, .inl (cB, 900, .inl o_f4))]) (wr := [(b 14, .inl (cI, 149, .inl f82))]) hP hD hS hA [1, 2] [0] rfl rfl rfl (by decide) (va_runV (As := [.ref (ad.1 22), .int 2, .int 8]) (rest := [.int 4, .ref (b 14)]) ⟨hx, hb, hml, hown, hts⟩ (f_X10_toldBy l G cI cJ cZ cB cQ _ ad fm h0 22 2 2 8 8 b o_thrown o_taped o_size o_ato70 o_fromo71 o_tokeno72 o_valueo73 o_faultKindo74 o_faultPlaceo75 o_lawNow o_walkSet o_oneWidow o_oneTurn o_askWorst o_mayWalk o_oftenAll o_oftenRoad o_oftenPegs o_f4 (by decide) ki_2 ki_8 hl_o_taped hh_o_taped hl_o_size hh_o_size w76 w77 w78 w79 hl_o_oneTurn hh_o_oneTurn) (cwV 3 hts (gV w_1405 w_1407 wp_92 w_11 w_1408) rfl rfl rfl ⟨rfl, hd_X10_toldBy⟩ ⟨Nat.le_of_ble_eq_true rfl, Nat.le_of_ble_eq_true rfl⟩) (mVs hK hZ hP hD hE hS hA [1, 2] rfl rfl [.ref (ad.1 22), .int 2, .int 8] 1 10 rfl rfl) rfl rfl hl.1 rfl (lv_room (Nat.le_of_ble_eq_true rfl)) dX10_readFirst_76 ⟨Nat.le_of_ble_eq_true rfl, Nat.le_of_ble_eq_true rfl⟩) (fun r84 u85 H locs hw86 hP hD hS => ?_)
  obtain ⟨o_ato87, o_fromo88, o_tokeno89, o_valueo90, o_faultKindo91, o_faultPlaceo92⟩ := u85
  try dsimp only at hw86
  have hP : va_P G vwCl [(b 14, .inl (cI, 149, .inl f82)), (h0, oX10 b o_thrown o_taped o_size o_ato87 o_fromo88 o_tokeno89 o_valueo90 o_faultKindo91 o_faultPlaceo92 o_lawNow o_walkSet o_oneWidow o_oneTurn o_askWorst o_mayWalk o_oftenAll o_oftenRoad o_oftenPegs), (b 4, .inl (cB, 900, .inl o_f4))] H := hP
  have hD : va_D A [(b 14, .inl (cI, 149, .inl f82)), (h0, oX10 b o_thrown o_taped o_size o_ato87 o_fromo88 o_tokeno89 o_valueo90 o_faultKindo91 o_faultPlaceo92 o_lawNow o_walkSet o_oneWidow o_oneTurn o_askWorst o_mayWalk o_oftenAll o_oftenRoad o_oftenPegs), (b 4, .inl (cB, 900, .inl o_f4))] := hD
  obtain ⟨w93, w94, w95, w96, w97, w98⟩ : 0 ≤ o_ato87.toInt ∧ o_ato87.toInt ≤ 900 ∧ 0 ≤ o_fromo88.toInt ∧ o_fromo88.toInt ≤ 900 ∧ o_ato70.toInt ≤ o_ato87.toInt ∧ ((2 ≤ r84.toInt ∧ r84.toInt ≤ 8 ∧ o_faultKindo91.toInt = 0 ∧ o_faultKindo74.toInt = 0) ∨ (r84.toInt = 0 ∧ ¬ o_faultKindo91.toInt = 0)) := hw86
  refine va_iast hx hb hK hP hD hS 0 0 rfl rfl (ix_in ki_4 (by omega) (by omega)) dX10_readFirst_79 (fun H locs hP hD hS => ?_)
  obtain ⟨f99, qf99⟩ : ∃ g, g = upd f82 (4 : Int32).toNatClampNeg r84 := ⟨_, rfl⟩
  rw [← qf99] at hP hD
  have hb99 : WB f99 := by rw [qf99]; exact WB_putc 4 8 hb82 rfl rfl (by decide) rfl (by omega) (by omega)
  have kf99_3 : (f99 3).toInt = (f82 3).toInt := by rw [qf99, pk_un (by decide)]
  have kf99_4 : (f99 4).toInt = r84.toInt := by rw [qf99]; exact rfl
  have kf99_5 : (f99 5).toInt = (f82 5).toInt := by rw [qf99, pk_un (by decide)]
  have kf99_6 : (f99 6).toInt = (f82 6).toInt := by rw [qf99, pk_un (by decide)]
  have kf99_7 : (f99 7).toInt = (f82 7).toInt := by rw [qf99, pk_un (by decide)]
  have kf99_9 : (f99 9).toInt = (f82 9).toInt := by rw [qf99, pk_un (by decide)]
  have hP : va_P G vwCl [(b 14, .inl (cI, 149, .inl f99)), (h0, oX10 b o_thrown o_taped o_size o_ato87 o_fromo88 o_tokeno89 o_valueo90 o_faultKindo91 o_faultPlaceo92 o_lawNow o_walkSet o_oneWidow o_oneTurn o_askWorst o_mayWalk o_oftenAll o_oftenRoad o_oftenPegs), (b 4, .inl (cB, 900, .inl o_f4))] H := hP
  have hD : va_D A [(b 14, .inl (cI, 149, .inl f99)), (h0, oX10 b o_thrown o_taped o_size o_ato87 o_fromo88 o_tokeno89 o_valueo90 o_faultKindo91 o_faultPlaceo92 o_lawNow o_walkSet o_oneWidow o_oneTurn o_askWorst o_mayWalk o_oftenAll o_oftenRoad o_oftenPegs), (b 4, .inl (cB, 900, .inl o_f4))] := hD
  exact hret _ _ _ _ (o_ato87, o_fromo88, o_tokeno89, o_valueo90, o_faultKindo91, o_faultPlaceo92, f99) (hP.sub (ws' := [(h0, oX10 b o_thrown o_taped o_size o_ato87 o_fromo88 o_tokeno89 o_valueo90 o_faultKindo91 o_faultPlaceo92 o_lawNow o_walkSet o_oneWidow o_oneTurn o_askWorst o_mayWalk o_oftenAll o_oftenRoad o_oftenPegs), (b 4, .inl (cB, 900, .inl o_f4)), (b 14, .inl (cI, 149, .inl f99))]) [1, 2, 0] rfl) (hD.sub (ws' := [(h0, oX10 b o_thrown o_taped o_size o_ato87 o_fromo88 o_tokeno89 o_valueo90 o_faultKindo91 o_faultPlaceo92 o_lawNow o_walkSet o_oneWidow o_oneTurn o_askWorst o_mayWalk o_oftenAll o_oftenRoad o_oftenPegs), (b 4, .inl (cB, 900, .inl o_f4)), (b 14, .inl (cI, 149, .inl f99))]) [1, 2, 0] rfl rfl) hS dX10_readFirst_80 (show 0 ≤ o_ato87.toInt ∧ o_ato87.toInt ≤ 900 ∧ 0 ≤ o_fromo88.toInt ∧ o_fromo88.toInt ≤ 900 ∧ WB f99 ∧ o_at.toInt ≤ o_ato87.toInt ∧ (o_faultKindo91.toInt = 0 → o_faultKind.toInt = 0) ∧ (f99 7).toInt = (o_f14 7).toInt ∧ (f99 9).toInt = (o_f14 9).toInt from ⟨w93, w94, w95, w96, hb99, (by omega), (by omega), (by omega), (by omega)⟩)
set_option maxHeartbeats 4000000 in
set_option maxRecDepth 100000 in
theorem f_X10_isTaken (l : Launch) (G : va_G) (cI cJ cZ cB cQ : ClassId) (sz : Nat) (h0 : Nat) (p0 : Int32) (a0 : Int) (p1 : Int32) (a1 : Int) (p2 : Int32) (a2 : Int) (b : Nat → Nat) (o_thrown : Int32) (o_taped : Int32) (o_size : Int32) (o_at : Int32) (o_from : Int32) (o_token : Int32) (o_value : Int32) (o_faultKind : Int32) (o_faultPlace : Int32) (o_lawNow : Int32) (o_walkSet : Int32) (o_oneWidow : Int32) (o_oneTurn : Int32) (o_askWorst : Int32) (o_mayWalk : Int32) (o_oftenAll : Int64) (o_oftenRoad : Int64) (o_oftenPegs : Int64) (o_f14 : Nat → Int32) (hp0 : p0.toInt = a0) (hp1 : p1.toInt = a1) (la1 : 0 ≤ a1) (ha1 : a1 ≤ 148) (hp2 : p2.toInt = a2) (la2 : 0 ≤ a2) (ha2 : a2 ≤ 149) (hm : a1 + a2 ≤ 149) (hl_o_taped : 0 ≤ o_taped.toInt) (hh_o_taped : o_taped.toInt ≤ 900) (hl_o_size : 0 ≤ o_size.toInt) (hh_o_size : o_size.toInt ≤ 900) (hl_o_at : 0 ≤ o_at.toInt) (hh_o_at : o_at.toInt ≤ 900) (hl_o_from : 0 ≤ o_from.toInt) (hh_o_from : o_from.toInt ≤ 900) (hl_o_oneTurn : 0 ≤ o_oneTurn.toInt) (hh_o_oneTurn : o_oneTurn.toInt ≤ 4) (ha_o_f14 : WB o_f14) : CI l yX10_isTaken (wl_ yX10_isTaken cX10_isTaken 6 (some .boolean)) ({ frames := 0, cells := 0, slots := 0, locals := 0 } : Room) G (TY cI cJ cZ cB cQ) [.ref h0, .int p0, .int p1, .int p2] [(h0, oX10 b o_thrown o_taped o_size o_at o_from o_token o_value o_faultKind o_faultPlace o_lawNow o_walkSet o_oneWidow o_oneTurn o_askWorst o_mayWalk o_oftenAll o_oftenRoad o_oftenPegs), (b 14, .inl (cI, 149, .inl o_f14))] sz (fun (r : Int32) (u : Unit) => 0 ≤ r.toInt ∧ r.toInt ≤ 1) (fun _ : Unit => [(h0, oX10 b o_thrown o_taped o_size o_at o_from o_token o_value o_faultKind o_faultPlace o_lawNow o_walkSet o_oneWidow o_oneTurn o_askWorst o_mayWalk o_oftenAll o_oftenRoad o_oftenPegs), (b 14, .inl (cI, 149, .inl o_f14))]) 0 0 := by
  refine CI.goz (cc := cX10_isTaken) (maxL := 6) (ret := (some .boolean)) (by decide) rfl (Nat.le_of_ble_eq_true rfl) ?_
  intro p e s m below meth c A ls Q hBd hret
  obtain ⟨hx, hb, hr, hml, hts, hown, hlk, hnm, hP, hK, hD, hA, hZ, hl⟩ := hBd
  have hown : s.vm.findClass RX10 = some m.cls := hown
  have hl : lv_has ls 6 [(0, .ref h0), (1, .int p0), (2, .int p1), (3, .int p2)] := hl
  have hS : va_S A s.heap s.heap [] := va_S.rf
  refine lv_iconst (v := 0) hx hb dX10_isTaken_0 (by decide) ?_
  refine lv_istore (lv' := [(4, .int 0), (0, .ref h0), (1, .int p0), (2, .int p1), (3, .int p2)]) hx hb dX10_isTaken_1 hl (by decide) rfl (fun ls hl => ?_)
  refine lv_iconst (v := 0) hx hb dX10_isTaken_3 (by decide) ?_
  refine lv_istore (lv' := [(5, .int 0), (4, .int 0), (0, .ref h0), (1, .int p0), (2, .int p1), (3, .int p2)]) hx hb dX10_isTaken_4 hl (by decide) rfl (fun ls hl => ?_)
  have lp1 : ∀ (n2 : Nat) (x3 : Int32) (x4 : Int32), 0 ≤ x3.toInt → x3.toInt ≤ 1 → 0 ≤ x4.toInt → x4.toInt ≤ 149 → 149 - x4.toInt < (n2 : Int) → ∀ (H : Heap) (locs : List Loc), va_P G vwCl [(h0, oX10 b o_thrown o_taped o_size o_at o_from o_token o_value o_faultKind o_faultPlace o_lawNow o_walkSet o_oneWidow o_oneTurn o_askWorst o_mayWalk o_oftenAll o_oftenRoad o_oftenPegs), (b 14, .inl (cI, 149, .inl o_f14))] H → va_D A [(h0, oX10 b o_thrown o_taped o_size o_at o_from o_token o_value o_faultKind o_faultPlace o_lawNow o_walkSet o_oneWidow o_oneTurn o_askWorst o_mayWalk o_oftenAll o_oftenRoad o_oftenPegs), (b 14, .inl (cI, 149, .inl o_f14))] → va_S A s.heap H locs → ∀ (ls : Array Slot), lv_has ls 6 [(5, .int x4), (4, .int x3), (0, .ref h0), (1, .int p0), (2, .int p1), (3, .int p2)] → W p l e ({ frames := 0, cells := 0, slots := 0, locals := 0 } : Room) s m ([.ref h0, .int p0, .int p1, .int p2] : List Value).toArray below meth c H locs 0 0 Q (F0 m 6 ls []) := by
    intro n2
    induction n2 with
    | zero =>
      intro x3 x4 k5 k6 k7 k8 mm10
      exact absurd mm10 (by have q9 := fb_rng x4; omega)
    | succ n2 ih9 =>
      intro x3 x4 k5 k6 k7 k8 mm10 H locs hP hD hS ls hl
      refine lv_iload hx hb dX10_isTaken_6 (lv_at hl 0 rfl) ?_
      refine lv_iload_n hx hb dX10_isTaken_8 rfl (lv_at hl 5 rfl) ?_
      refine lv_icmp_ge (tgt := 43) hx hb dX10_isTaken_9 (by decide) (fun c11 => ?_) (fun c11 => ?_)
      · have c11 := i_le hp2 rfl c11
        refine lv_iload hx hb dX10_isTaken_43 (lv_at hl 1 rfl) ?_
        exact hret _ _ _ _ x3 () hP hD hS dX10_isTaken_45 (nar_z k5 k6) (show 0 ≤ x3.toInt ∧ x3.toInt ≤ 1 from ⟨k5, k6⟩)
      · have c11 := i_nle hp2 rfl c11
        refine lv_iload hx hb dX10_isTaken_12 (lv_at hl 1 rfl) ?_
        refine lv_if_ne (tgt := 30) hx hb dX10_isTaken_14 (by decide) (fun c12 => ?_) (fun c12 => ?_)
        · have c12 := i_ne rfl ki_0 c12
          refine lv_iconst (v := 1) hx hb dX10_isTaken_30 (by decide) ?_
          refine lv_goto (tgt := 35) hx hb dX10_isTaken_31 (by decide) ?_
          refine lv_istore (lv' := [(4, .int 1), (5, .int x4), (0, .ref h0), (1, .int p0), (2, .int p1), (3, .int p2)]) hx hb dX10_isTaken_35 hl (by decide) rfl (fun ls hl => ?_)
          obtain ⟨v13, ev13⟩ : ∃ y : Int32, y = x4 + 1 := ⟨_, rfl⟩
          have tv13 : v13.toInt = x4.toInt + 1 := ti_add rfl ki_1 ev13 (by omega) (by omega)
          refine lv_iinc (v := v13) (lv' := [(5, .int v13), (4, .int 1), (0, .ref h0), (1, .int p0), (2, .int p1), (3, .int p2)]) hx hb dX10_isTaken_37 hl (k := 1) rfl (by rw [ev13]; rfl) (by decide) rfl (fun ls hl => ?_)
          refine lv_goto (tgt := 6) hx hb dX10_isTaken_40 (by decide) ?_
          exact ih9 1 v13 (by rw [ki_1]; decide) (by rw [ki_1]; decide) (by omega) (by omega) (by omega) _ _ hP hD hS ls (lv_sub hl [0, 1, 2, 3, 4, 5] rfl)
        · have c12 := i_eq rfl ki_0 c12
          refine lv_aload_n hx hb dX10_isTaken_17 rfl (lv_at hl 2 rfl) ?_
          refine va_get (D := G) (ci := 10) (v := .ref (b 14)) (C := RX10) (T := TX10) (N := 46) hx hb hts iG_X10 hown hK hP 0 rfl rfl 14 (by decide) (hts _ w_1206) (fun _ h9 => h9) rfl dX10_isTaken_18 ?_
          refine lv_iload_n hx hb dX10_isTaken_21 rfl (lv_at hl 4 rfl) ?_
          refine lv_iload hx hb dX10_isTaken_22 (lv_at hl 0 rfl) ?_
          refine lv_iadd hx hb dX10_isTaken_24 ?_
          refine lv_topi (fun v14 ev14 => ?_)
          have tv14 : v14.toInt = a1 + x4.toInt := ti_add hp1 rfl ev14 (by omega) (by omega)
          refine va_iald hx hb hK hP 1 0 rfl rfl (ix_in tv14 (by omega) (by omega)) dX10_isTaken_25 ?_
          refine lv_topi (fun v15 ev15 => ?_)
          refine lv_iload_n hx hb dX10_isTaken_26 rfl (lv_at hl 3 rfl) ?_
          refine lv_icmp_ne (tgt := 34) hx hb dX10_isTaken_27 (by decide) (fun c16 => ?_) (fun c16 => ?_)
          · have c16 := i_ne rfl hp0 c16
            refine lv_iconst (v := 0) hx hb dX10_isTaken_34 (by decide) ?_
            refine lv_istore (lv' := [(4, .int 0), (5, .int x4), (0, .ref h0), (1, .int p0), (2, .int p1), (3, .int p2)]) hx hb dX10_isTaken_35 hl (by decide) rfl (fun ls hl => ?_)
            obtain ⟨v17, ev17⟩ : ∃ y : Int32, y = x4 + 1 := ⟨_, rfl⟩
            have tv17 : v17.toInt = x4.toInt + 1 := ti_add rfl ki_1 ev17 (by omega) (by omega)
            refine lv_iinc (v := v17) (lv' := [(5, .int v17), (4, .int 0), (0, .ref h0), (1, .int p0), (2, .int p1), (3, .int p2)]) hx hb dX10_isTaken_37 hl (k := 1) rfl (by rw [ev17]; rfl) (by decide) rfl (fun ls hl => ?_)
            refine lv_goto (tgt := 6) hx hb dX10_isTaken_40 (by decide) ?_
            exact ih9 0 v17 (by rw [ki_0]; decide) (by rw [ki_0]; decide) (by omega) (by omega) (by omega) _ _ hP hD hS ls (lv_sub hl [0, 1, 2, 3, 4, 5] rfl)
          · have c16 := i_eq rfl hp0 c16
            refine lv_iconst (v := 1) hx hb dX10_isTaken_30 (by decide) ?_
            refine lv_goto (tgt := 35) hx hb dX10_isTaken_31 (by decide) ?_
            refine lv_istore (lv' := [(4, .int 1), (5, .int x4), (0, .ref h0), (1, .int p0), (2, .int p1), (3, .int p2)]) hx hb dX10_isTaken_35 hl (by decide) rfl (fun ls hl => ?_)
            obtain ⟨v18, ev18⟩ : ∃ y : Int32, y = x4 + 1 := ⟨_, rfl⟩
            have tv18 : v18.toInt = x4.toInt + 1 := ti_add rfl ki_1 ev18 (by omega) (by omega)
            refine lv_iinc (v := v18) (lv' := [(5, .int v18), (4, .int 1), (0, .ref h0), (1, .int p0), (2, .int p1), (3, .int p2)]) hx hb dX10_isTaken_37 hl (k := 1) rfl (by rw [ev18]; rfl) (by decide) rfl (fun ls hl => ?_)
            refine lv_goto (tgt := 6) hx hb dX10_isTaken_40 (by decide) ?_
            exact ih9 1 v18 (by rw [ki_1]; decide) (by rw [ki_1]; decide) (by omega) (by omega) (by omega) _ _ hP hD hS ls (lv_sub hl [0, 1, 2, 3, 4, 5] rfl)
  exact lp1 150 0 0 (by rw [ki_0]; decide) (by rw [ki_0]; decide) (by rw [ki_0]; decide) (by rw [ki_0]; decide) (by rw [ki_0]; decide) _ _ hP hD hS ls (lv_sub hl [0, 1, 2, 3, 4, 5] rfl)
set_option maxHeartbeats 4000000 in
set_option maxRecDepth 100000 in
theorem f_X10_readCell (l : Launch) (G : va_G) (cI cJ cZ cB cQ : ClassId) (sz : Nat) (h0 : Nat) (p0 : Int32) (a0 : Int) (b : Nat → Nat) (o_thrown : Int32) (o_taped : Int32) (o_size : Int32) (o_at : Int32) (o_from : Int32) (o_token : Int32) (o_value : Int32) (o_faultKind : Int32) (o_faultPlace : Int32) (o_lawNow : Int32) (o_walkSet : Int32) (o_oneWidow : Int32) (o_oneTurn : Int32) (o_askWorst : Int32) (o_mayWalk : Int32) (o_oftenAll : Int64) (o_oftenRoad : Int64) (o_oftenPegs : Int64) (o_f4 : Nat → Int32) (o_f14 : Nat → Int32) (hp0 : p0.toInt = a0) (hl_o_taped : 0 ≤ o_taped.toInt) (hh_o_taped : o_taped.toInt ≤ 900) (hl_o_size : 0 ≤ o_size.toInt) (hh_o_size : o_size.toInt ≤ 900) (hl_o_at : 0 ≤ o_at.toInt) (hh_o_at : o_at.toInt ≤ 900) (hl_o_from : 0 ≤ o_from.toInt) (hh_o_from : o_from.toInt ≤ 900) (hl_o_oneTurn : 0 ≤ o_oneTurn.toInt) (hh_o_oneTurn : o_oneTurn.toInt ≤ 4) (ha_o_f14 : WB o_f14) : CI l yX10_readCell (wl_ yX10_readCell cX10_readCell 4 (some .int)) ({ frames := 3, cells := 0, slots := 0, locals := 69 } : Room) G (TY cI cJ cZ cB cQ) [.ref h0, .int p0] [(h0, oX10 b o_thrown o_taped o_size o_at o_from o_token o_value o_faultKind o_faultPlace o_lawNow o_walkSet o_oneWidow o_oneTurn o_askWorst o_mayWalk o_oftenAll o_oftenRoad o_oftenPegs), (b 4, .inl (cB, 900, .inl o_f4)), (b 14, .inl (cI, 149, .inl o_f14))] sz (fun (r : Int32) (u : Int32 × Int32 × Int32 × Int32 × Int32 × Int32) => 0 ≤ r.toInt ∧ r.toInt ≤ 77 ∧ 0 ≤ u.1.toInt ∧ u.1.toInt ≤ 900 ∧ 0 ≤ u.2.1.toInt ∧ u.2.1.toInt ≤ 900 ∧ o_at.toInt ≤ u.1.toInt ∧ (u.2.2.2.2.1.toInt = 0 → o_faultKind.toInt = 0) ∧ (u.2.2.2.2.1.toInt = 0 → r.toInt / 10 < (o_f14 3).toInt ∧ r.toInt % 10 < (o_f14 4).toInt)) (fun u : Int32 × Int32 × Int32 × Int32 × Int32 × Int32 => [(h0, oX10 b o_thrown o_taped o_size u.1 u.2.1 u.2.2.1 u.2.2.2.1 u.2.2.2.2.1 u.2.2.2.2.2 o_lawNow o_walkSet o_oneWidow o_oneTurn o_askWorst o_mayWalk o_oftenAll o_oftenRoad o_oftenPegs), (b 4, .inl (cB, 900, .inl o_f4)), (b 14, .inl (cI, 149, .inl o_f14))]) 0 0 := by
  refine CI.go (cc := cX10_readCell) (maxL := 4) (ret := (some .int)) (by decide) rfl (Nat.le_of_ble_eq_true rfl) ?_
  intro p e s m below meth c A ls Q hBd hret
  obtain ⟨hx, hb, hr, hml, hts, hown, hlk, hnm, hP, hK, hD, hA, hZ, hl⟩ := hBd
  have hown : s.vm.findClass RX10 = some m.cls := hown
  have hl : lv_has ls 4 [(0, .ref h0), (1, .int p0)] := hl
  have hS : va_S A s.heap s.heap [] := va_S.rf
  refine lv_aload_n hx hb dX10_readCell_0 rfl (lv_at hl 0 rfl) ?_
  refine lv_iconst (v := 0) hx hb dX10_readCell_1 (by decide) ?_
  refine lv_aload_n hx hb dX10_readCell_2 rfl (lv_at hl 0 rfl) ?_
  refine va_get (D := G) (ci := 10) (v := .ref (b 14)) (C := RX10) (T := TX10) (N := 46) hx hb hts iG_X10 hown hK hP 0 rfl rfl 14 (by decide) (hts _ w_1206) (fun _ h9 => h9) rfl dX10_readCell_3 ?_
  refine lv_iconst (v := 3) hx hb dX10_readCell_6 (by decide) ?_
  refine va_iald hx hb hK hP 2 0 rfl rfl (ix_in ki_3 (by omega) (by omega)) dX10_readCell_7 ?_
  refine lv_topi (fun v1 ev1 => ?_)
  have tv1 : v1.toInt = (o_f14 3).toInt := by rw [ev1]; rfl
  obtain ⟨ia2, ib3⟩ := WB_3 ha_o_f14
  refine lv_iconst (v := 1) hx hb dX10_readCell_8 (by decide) ?_
  refine lv_isub hx hb dX10_readCell_9 ?_
  refine lv_topi (fun v4 ev4 => ?_)
  have tv4 : v4.toInt = ((o_f14 3).toInt) - 1 := ti_sub tv1 ki_1 ev4 (by omega) (by omega)
  refine k_i (wc := [(h0, oX10 b o_thrown o_taped o_size o_at o_from o_token o_value o_faultKind o_faultPlace o_lawNow o_walkSet o_oneWidow o_oneTurn o_askWorst o_mayWalk o_oftenAll o_oftenRoad o_oftenPegs), (b 4, .inl (cB, 900, .inl o_f4))]) (wr := [(b 14, .inl (cI, 149, .inl o_f14))]) hP hD hS hA [0, 1] [2] rfl rfl rfl (by decide) (va_runV (As := [.int 0, .int v4]) (rest := []) ⟨hx, hb, hml, hown, hts⟩ (f_X10_number l G cI cJ cZ cB cQ _ h0 0 0 v4 (((o_f14 3).toInt) - 1) b o_thrown o_taped o_size o_at o_from o_token o_value o_faultKind o_faultPlace o_lawNow o_walkSet o_oneWidow o_oneTurn o_askWorst o_mayWalk o_oftenAll o_oftenRoad o_oftenPegs o_f4 ki_0 tv4 hl_o_taped hh_o_taped hl_o_size hh_o_size hl_o_at hh_o_at hl_o_from hh_o_from hl_o_oneTurn hh_o_oneTurn) (cwV 2 hts (gV w_1409 w_1411 wp_93 w_11 w_1412) rfl rfl rfl ⟨rfl, hd_X10_number⟩ ⟨Nat.le_of_ble_eq_true rfl, Nat.le_of_ble_eq_true rfl⟩) (mV hK hZ hP hD [0, 1] rfl rfl [.int 0, .int v4] 0 10 rfl rfl) rfl rfl hl.1 rfl (lv_room (Nat.le_of_ble_eq_true rfl)) dX10_readCell_10 ⟨Nat.le_of_ble_eq_true rfl, Nat.le_of_ble_eq_true rfl⟩) (fun r5 u6 H locs hw7 hP hD hS => ?_)
  obtain ⟨o_ato8, o_fromo9, o_tokeno10, o_valueo11, o_faultKindo12, o_faultPlaceo13⟩ := u6
  try dsimp only at hw7
  have hP : va_P G vwCl [(b 14, .inl (cI, 149, .inl o_f14)), (h0, oX10 b o_thrown o_taped o_size o_ato8 o_fromo9 o_tokeno10 o_valueo11 o_faultKindo12 o_faultPlaceo13 o_lawNow o_walkSet o_oneWidow o_oneTurn o_askWorst o_mayWalk o_oftenAll o_oftenRoad o_oftenPegs), (b 4, .inl (cB, 900, .inl o_f4))] H := hP
  have hD : va_D A [(b 14, .inl (cI, 149, .inl o_f14)), (h0, oX10 b o_thrown o_taped o_size o_ato8 o_fromo9 o_tokeno10 o_valueo11 o_faultKindo12 o_faultPlaceo13 o_lawNow o_walkSet o_oneWidow o_oneTurn o_askWorst o_mayWalk o_oftenAll o_oftenRoad o_oftenPegs), (b 4, .inl (cB, 900, .inl o_f4))] := hD
  obtain ⟨w14, w15, w16, w17, w18, w19⟩ : 0 ≤ o_ato8.toInt ∧ o_ato8.toInt ≤ 900 ∧ 0 ≤ o_fromo9.toInt ∧ o_fromo9.toInt ≤ 900 ∧ o_at.toInt ≤ o_ato8.toInt ∧ ((0 ≤ r5.toInt ∧ r5.toInt ≤ (((o_f14 3).toInt) - 1) ∧ o_faultKindo12.toInt = 0 ∧ o_faultKind.toInt = 0) ∨ (r5.toInt = 0 ∧ ¬ o_faultKindo12.toInt = 0)) := hw7
  refine lv_istore_n (lv' := [(2, .int r5), (0, .ref h0), (1, .int p0)]) hx hb dX10_readCell_13 rfl hl (by decide) rfl (fun ls hl => ?_)
  refine lv_aload_n hx hb dX10_readCell_14 rfl (lv_at hl 1 rfl) ?_
  refine k_i (wc := [(h0, oX10 b o_thrown o_taped o_size o_ato8 o_fromo9 o_tokeno10 o_valueo11 o_faultKindo12 o_faultPlaceo13 o_lawNow o_walkSet o_oneWidow o_oneTurn o_askWorst o_mayWalk o_oftenAll o_oftenRoad o_oftenPegs)]) (wr := [(b 14, .inl (cI, 149, .inl o_f14)), (b 4, .inl (cB, 900, .inl o_f4))]) hP hD hS hA [1] [0, 2] rfl rfl rfl (by decide) (va_runV (As := []) (rest := []) ⟨hx, hb, hml, hown, hts⟩ (f_X10_good l G cI cJ cZ cB cQ _ h0 b o_thrown o_taped o_size o_ato8 o_fromo9 o_tokeno10 o_valueo11 o_faultKindo12 o_faultPlaceo13 o_lawNow o_walkSet o_oneWidow o_oneTurn o_askWorst o_mayWalk o_oftenAll o_oftenRoad o_oftenPegs hl_o_taped hh_o_taped hl_o_size hh_o_size w14 w15 w16 w17 hl_o_oneTurn hh_o_oneTurn) (cwV 0 hts (gV w_1373 w_1375 wp_85 w_11 w_1376) rfl rfl rfl ⟨rfl, hd_X10_good⟩ ⟨Nat.le_of_ble_eq_true rfl, Nat.le_of_ble_eq_true rfl⟩) (mV hK hZ hP hD [1] rfl rfl [] 1 10 rfl rfl) rfl rfl hl.1 rfl (lv_room (Nat.le_of_ble_eq_true rfl)) dX10_readCell_15 ⟨Nat.le_of_ble_eq_true rfl, Nat.le_of_ble_eq_true rfl⟩) (fun r20 u21 H locs hw22 hP hD hS => ?_)
  try dsimp only at hw22
  have hP : va_P G vwCl [(b 14, .inl (cI, 149, .inl o_f14)), (b 4, .inl (cB, 900, .inl o_f4)), (h0, oX10 b o_thrown o_taped o_size o_ato8 o_fromo9 o_tokeno10 o_valueo11 o_faultKindo12 o_faultPlaceo13 o_lawNow o_walkSet o_oneWidow o_oneTurn o_askWorst o_mayWalk o_oftenAll o_oftenRoad o_oftenPegs)] H := hP
  have hD : va_D A [(b 14, .inl (cI, 149, .inl o_f14)), (b 4, .inl (cB, 900, .inl o_f4)), (h0, oX10 b o_thrown o_taped o_size o_ato8 o_fromo9 o_tokeno10 o_valueo11 o_faultKindo12 o_faultPlaceo13 o_lawNow o_walkSet o_oneWidow o_oneTurn o_askWorst o_mayWalk o_oftenAll o_oftenRoad o_oftenPegs)] := hD
  rcases hw22 with ⟨rfl, a24⟩ | ⟨rfl, a25⟩
  · skip
    refine lv_if_eq (tgt := 102) hx hb dX10_readCell_18 (by decide) (fun c26 => absurd c26 (by decide)) (fun c26 => ?_)
    refine lv_aload_n hx hb dX10_readCell_21 rfl (lv_at hl 1 rfl) ?_
    refine va_get (D := G) (ci := 10) (v := .int o_tokeno10) (C := RX10) (T := TX10) (N := 46) hx hb hts iG_X10 hown hK hP 2 rfl rfl 10 (by decide) (hts _ w_1202) (fun _ h9 => h9) rfl dX10_readCell_22 ?_
    refine lv_iconst (v := 2) hx hb dX10_readCell_25 (by decide) ?_
    refine lv_icmp_ne (tgt := 102) hx hb dX10_readCell_26 (by decide) (fun c27 => ?_) (fun c27 => ?_)
    · have c27 := i_ne rfl ki_2 c27
      refine lv_bipush (v := 10) hx hb dX10_readCell_102 (by decide) ?_
      refine lv_iload_n hx hb dX10_readCell_104 rfl (lv_at hl 0 rfl) ?_
      refine lv_imul hx hb dX10_readCell_105 ?_
      refine lv_topi (fun v28 ev28 => ?_)
      have tv28 : v28.toInt = 10 * r5.toInt := ti_mul ki_10 rfl ev28 (by omega) (by omega)
      refine lv_aload_n hx hb dX10_readCell_106 rfl (lv_at hl 1 rfl) ?_
      refine lv_iconst (v := 0) hx hb dX10_readCell_107 (by decide) ?_
      refine lv_aload_n hx hb dX10_readCell_108 rfl (lv_at hl 1 rfl) ?_
      refine va_get (D := G) (ci := 10) (v := .ref (b 14)) (C := RX10) (T := TX10) (N := 46) hx hb hts iG_X10 hown hK hP 2 rfl rfl 14 (by decide) (hts _ w_1206) (fun _ h9 => h9) rfl dX10_readCell_109 ?_
      refine lv_iconst (v := 4) hx hb dX10_readCell_112 (by decide) ?_
      refine va_iald hx hb hK hP 0 0 rfl rfl (ix_in ki_4 (by omega) (by omega)) dX10_readCell_113 ?_
      refine lv_topi (fun v29 ev29 => ?_)
      have tv29 : v29.toInt = (o_f14 4).toInt := by rw [ev29]; rfl
      obtain ⟨ia30, ib31⟩ := WB_4 ha_o_f14
      refine lv_iconst (v := 1) hx hb dX10_readCell_114 (by decide) ?_
      refine lv_isub hx hb dX10_readCell_115 ?_
      refine lv_topi (fun v32 ev32 => ?_)
      have tv32 : v32.toInt = ((o_f14 4).toInt) - 1 := ti_sub tv29 ki_1 ev32 (by omega) (by omega)
      refine k_i (wc := [(h0, oX10 b o_thrown o_taped o_size o_ato8 o_fromo9 o_tokeno10 o_valueo11 o_faultKindo12 o_faultPlaceo13 o_lawNow o_walkSet o_oneWidow o_oneTurn o_askWorst o_mayWalk o_oftenAll o_oftenRoad o_oftenPegs), (b 4, .inl (cB, 900, .inl o_f4))]) (wr := [(b 14, .inl (cI, 149, .inl o_f14))]) hP hD hS hA [2, 1] [0] rfl rfl rfl (by decide) (va_runV (As := [.int 0, .int v32]) (rest := [.int v28]) ⟨hx, hb, hml, hown, hts⟩ (f_X10_number l G cI cJ cZ cB cQ _ h0 0 0 v32 (((o_f14 4).toInt) - 1) b o_thrown o_taped o_size o_ato8 o_fromo9 o_tokeno10 o_valueo11 o_faultKindo12 o_faultPlaceo13 o_lawNow o_walkSet o_oneWidow o_oneTurn o_askWorst o_mayWalk o_oftenAll o_oftenRoad o_oftenPegs o_f4 ki_0 tv32 hl_o_taped hh_o_taped hl_o_size hh_o_size w14 w15 w16 w17 hl_o_oneTurn hh_o_oneTurn) (cwV 2 hts (gV w_1409 w_1411 wp_93 w_11 w_1412) rfl rfl rfl ⟨rfl, hd_X10_number⟩ ⟨Nat.le_of_ble_eq_true rfl, Nat.le_of_ble_eq_true rfl⟩) (mV hK hZ hP hD [2, 1] rfl rfl [.int 0, .int v32] 2 10 rfl rfl) rfl rfl hl.1 rfl (lv_room (Nat.le_of_ble_eq_true rfl)) dX10_readCell_116 ⟨Nat.le_of_ble_eq_true rfl, Nat.le_of_ble_eq_true rfl⟩) (fun r33 u34 H locs hw35 hP hD hS => ?_)
      obtain ⟨o_ato36, o_fromo37, o_tokeno38, o_valueo39, o_faultKindo40, o_faultPlaceo41⟩ := u34
      try dsimp only at hw35
      have hP : va_P G vwCl [(b 14, .inl (cI, 149, .inl o_f14)), (h0, oX10 b o_thrown o_taped o_size o_ato36 o_fromo37 o_tokeno38 o_valueo39 o_faultKindo40 o_faultPlaceo41 o_lawNow o_walkSet o_oneWidow o_oneTurn o_askWorst o_mayWalk o_oftenAll o_oftenRoad o_oftenPegs), (b 4, .inl (cB, 900, .inl o_f4))] H := hP
      have hD : va_D A [(b 14, .inl (cI, 149, .inl o_f14)), (h0, oX10 b o_thrown o_taped o_size o_ato36 o_fromo37 o_tokeno38 o_valueo39 o_faultKindo40 o_faultPlaceo41 o_lawNow o_walkSet o_oneWidow o_oneTurn o_askWorst o_mayWalk o_oftenAll o_oftenRoad o_oftenPegs), (b 4, .inl (cB, 900, .inl o_f4))] := hD
      obtain ⟨w42, w43, w44, w45, w46, w47⟩ : 0 ≤ o_ato36.toInt ∧ o_ato36.toInt ≤ 900 ∧ 0 ≤ o_fromo37.toInt ∧ o_fromo37.toInt ≤ 900 ∧ o_ato8.toInt ≤ o_ato36.toInt ∧ ((0 ≤ r33.toInt ∧ r33.toInt ≤ (((o_f14 4).toInt) - 1) ∧ o_faultKindo40.toInt = 0 ∧ o_faultKindo12.toInt = 0) ∨ (r33.toInt = 0 ∧ ¬ o_faultKindo40.toInt = 0)) := hw35
      refine lv_iadd hx hb dX10_readCell_119 ?_
      refine lv_topi (fun v48 ev48 => ?_)
      have tv48 : v48.toInt = 10 * r5.toInt + r33.toInt := ti_add tv28 rfl ev48 (by omega) (by omega)
      exact hret _ _ _ _ v48 (o_ato36, o_fromo37, o_tokeno38, o_valueo39, o_faultKindo40, o_faultPlaceo41) (hP.sub (ws' := [(h0, oX10 b o_thrown o_taped o_size o_ato36 o_fromo37 o_tokeno38 o_valueo39 o_faultKindo40 o_faultPlaceo41 o_lawNow o_walkSet o_oneWidow o_oneTurn o_askWorst o_mayWalk o_oftenAll o_oftenRoad o_oftenPegs), (b 4, .inl (cB, 900, .inl o_f4)), (b 14, .inl (cI, 149, .inl o_f14))]) [1, 2, 0] rfl) (hD.sub (ws' := [(h0, oX10 b o_thrown o_taped o_size o_ato36 o_fromo37 o_tokeno38 o_valueo39 o_faultKindo40 o_faultPlaceo41 o_lawNow o_walkSet o_oneWidow o_oneTurn o_askWorst o_mayWalk o_oftenAll o_oftenRoad o_oftenPegs), (b 4, .inl (cB, 900, .inl o_f4)), (b 14, .inl (cI, 149, .inl o_f14))]) [1, 2, 0] rfl rfl) hS dX10_readCell_120 (show 0 ≤ v48.toInt ∧ v48.toInt ≤ 77 ∧ 0 ≤ o_ato36.toInt ∧ o_ato36.toInt ≤ 900 ∧ 0 ≤ o_fromo37.toInt ∧ o_fromo37.toInt ≤ 900 ∧ o_at.toInt ≤ o_ato36.toInt ∧ (o_faultKindo40.toInt = 0 → o_faultKind.toInt = 0) ∧ (o_faultKindo40.toInt = 0 → v48.toInt / 10 < (o_f14 3).toInt ∧ v48.toInt % 10 < (o_f14 4).toInt) from ⟨(by omega), (by omega), w42, w43, w44, w45, (by omega), (by omega), (by intro q9; rw [tv48]; omega)⟩)
    · have c27 := i_eq rfl ki_2 c27
      refine lv_aload_n hx hb dX10_readCell_29 rfl (lv_at hl 1 rfl) ?_
      refine va_get (D := G) (ci := 10) (v := .int o_valueo11) (C := RX10) (T := TX10) (N := 46) hx hb hts iG_X10 hown hK hP 2 rfl rfl 11 (by decide) (hts _ w_1203) (fun _ h9 => h9) rfl dX10_readCell_30 ?_
      obtain ⟨v49, ev49⟩ : ∃ y : Int64, o_valueo11.toInt64 = y := ⟨_, rfl⟩
      have tv49 : v49.toInt = o_valueo11.toInt := ti_wide rfl ev49
      refine lv_i2l (v := v49) hx hb dX10_readCell_33 ev49 ?_
      refine lv_lconst (v := 0) hx hb dX10_readCell_34 (by decide) ?_
      refine lv_aload_n hx hb dX10_readCell_35 rfl (lv_at hl 1 rfl) ?_
      refine va_get (D := G) (ci := 10) (v := .ref (b 14)) (C := RX10) (T := TX10) (N := 46) hx hb hts iG_X10 hown hK hP 2 rfl rfl 14 (by decide) (hts _ w_1206) (fun _ h9 => h9) rfl dX10_readCell_36 ?_
      refine lv_iconst (v := 4) hx hb dX10_readCell_39 (by decide) ?_
      refine va_iald hx hb hK hP 0 0 rfl rfl (ix_in ki_4 (by omega) (by omega)) dX10_readCell_40 ?_
      refine lv_topi (fun v50 ev50 => ?_)
      have tv50 : v50.toInt = (o_f14 4).toInt := by rw [ev50]; rfl
      obtain ⟨ia51, ib52⟩ := WB_4 ha_o_f14
      refine lv_iconst (v := 1) hx hb dX10_readCell_41 (by decide) ?_
      refine lv_isub hx hb dX10_readCell_42 ?_
      refine lv_topi (fun v53 ev53 => ?_)
      have tv53 : v53.toInt = ((o_f14 4).toInt) - 1 := ti_sub tv50 ki_1 ev53 (by omega) (by omega)
      obtain ⟨v54, ev54⟩ : ∃ y : Int64, v53.toInt64 = y := ⟨_, rfl⟩
      have tv54 : v54.toInt = ((o_f14 4).toInt) - 1 := ti_wide tv53 ev54
      refine lv_i2l (v := v54) hx hb dX10_readCell_43 ev54 ?_
      refine k_i (wc := []) (wr := [(b 14, .inl (cI, 149, .inl o_f14)), (b 4, .inl (cB, 900, .inl o_f4)), (h0, oX10 b o_thrown o_taped o_size o_ato8 o_fromo9 o_tokeno10 o_valueo11 o_faultKindo12 o_faultPlaceo13 o_lawNow o_walkSet o_oneWidow o_oneTurn o_askWorst o_mayWalk o_oftenAll o_oftenRoad o_oftenPegs)]) hP hD hS hA [] [0, 1, 2] rfl rfl rfl (by decide) (va_runS (As := [.long v49, .long 0, .long v54]) (rest := []) ⟨hx, hb, hml, hown, hts⟩ (f_X10_in l G cI cJ cZ cB cQ _ v49 o_valueo11.toInt 0 0 v54 (((o_f14 4).toInt) - 1) tv49 kl_0 tv54) (va_cwS 3 hts (gS w_1336 w_1337 w_11 w_1338) rfl rfl rfl hd_X10_in ⟨Nat.le_of_ble_eq_true rfl, Nat.le_of_ble_eq_true rfl⟩) (mS hK hZ hP hD [] rfl rfl [.long v49, .long 0, .long v54]) rfl rfl hl.1 rfl (lv_room (Nat.le_of_ble_eq_true rfl)) dX10_readCell_44 ⟨Nat.le_of_ble_eq_true rfl, Nat.le_of_ble_eq_true rfl⟩) (fun r55 u56 H locs hw57 hP hD hS => ?_)
      try dsimp only at hw57
      have hP : va_P G vwCl [(b 14, .inl (cI, 149, .inl o_f14)), (b 4, .inl (cB, 900, .inl o_f4)), (h0, oX10 b o_thrown o_taped o_size o_ato8 o_fromo9 o_tokeno10 o_valueo11 o_faultKindo12 o_faultPlaceo13 o_lawNow o_walkSet o_oneWidow o_oneTurn o_askWorst o_mayWalk o_oftenAll o_oftenRoad o_oftenPegs)] H := hP
      have hD : va_D A [(b 14, .inl (cI, 149, .inl o_f14)), (b 4, .inl (cB, 900, .inl o_f4)), (h0, oX10 b o_thrown o_taped o_size o_ato8 o_fromo9 o_tokeno10 o_valueo11 o_faultKindo12 o_faultPlaceo13 o_lawNow o_walkSet o_oneWidow o_oneTurn o_askWorst o_mayWalk o_oftenAll o_oftenRoad o_oftenPegs)] := hD
      rcases hw57 with ⟨rfl, a59, a60⟩ | ⟨rfl, a61⟩
      · skip
        refine lv_if_eq (tgt := 102) hx hb dX10_readCell_47 (by decide) (fun c62 => absurd c62 (by decide)) (fun c62 => ?_)
        refine lv_bipush (v := 10) hx hb dX10_readCell_50 (by decide) ?_
        refine lv_iload_n hx hb dX10_readCell_52 rfl (lv_at hl 0 rfl) ?_
        refine lv_imul hx hb dX10_readCell_53 ?_
        refine lv_topi (fun v63 ev63 => ?_)
        have tv63 : v63.toInt = 10 * r5.toInt := ti_mul ki_10 rfl ev63 (by omega) (by omega)
        refine lv_aload_n hx hb dX10_readCell_54 rfl (lv_at hl 1 rfl) ?_
        refine va_get (D := G) (ci := 10) (v := .int o_valueo11) (C := RX10) (T := TX10) (N := 46) hx hb hts iG_X10 hown hK hP 2 rfl rfl 11 (by decide) (hts _ w_1203) (fun _ h9 => h9) rfl dX10_readCell_55 ?_
        refine lv_iadd hx hb dX10_readCell_58 ?_
        refine lv_topi (fun v64 ev64 => ?_)
        have tv64 : v64.toInt = 10 * r5.toInt + o_valueo11.toInt := ti_add tv63 rfl ev64 (by omega) (by omega)
        refine lv_istore_n (lv' := [(3, .int v64), (2, .int r5), (0, .ref h0), (1, .int p0)]) hx hb dX10_readCell_59 rfl hl (by decide) rfl (fun ls hl => ?_)
        refine lv_aload_n hx hb dX10_readCell_60 rfl (lv_at hl 2 rfl) ?_
        refine lv_iload_n hx hb dX10_readCell_61 rfl (lv_at hl 0 rfl) ?_
        refine lv_bipush (v := 10) hx hb dX10_readCell_62 (by decide) ?_
        refine lv_aload_n hx hb dX10_readCell_64 rfl (lv_at hl 2 rfl) ?_
        refine va_get (D := G) (ci := 10) (v := .ref (b 14)) (C := RX10) (T := TX10) (N := 46) hx hb hts iG_X10 hown hK hP 2 rfl rfl 14 (by decide) (hts _ w_1206) (fun _ h9 => h9) rfl dX10_readCell_65 ?_
        refine lv_iconst (v := 5) hx hb dX10_readCell_68 (by decide) ?_
        refine va_iald hx hb hK hP 0 0 rfl rfl (ix_in ki_5 (by omega) (by omega)) dX10_readCell_69 ?_
        refine lv_topi (fun v65 ev65 => ?_)
        have tv65 : v65.toInt = (o_f14 5).toInt := by rw [ev65]; rfl
        obtain ⟨ia66, ib67⟩ := WB_5 ha_o_f14
        refine k_i (wc := [(h0, oX10 b o_thrown o_taped o_size o_ato8 o_fromo9 o_tokeno10 o_valueo11 o_faultKindo12 o_faultPlaceo13 o_lawNow o_walkSet o_oneWidow o_oneTurn o_askWorst o_mayWalk o_oftenAll o_oftenRoad o_oftenPegs), (b 14, .inl (cI, 149, .inl o_f14))]) (wr := [(b 4, .inl (cB, 900, .inl o_f4))]) hP hD hS hA [2, 0] [1] rfl rfl rfl (by decide) (va_runV (As := [.int v64, .int 10, .int v65]) (rest := []) ⟨hx, hb, hml, hown, hts⟩ (f_X10_isTaken l G cI cJ cZ cB cQ _ h0 v64 (10 * r5.toInt + o_valueo11.toInt) 10 10 v65 ((o_f14 5).toInt) b o_thrown o_taped o_size o_ato8 o_fromo9 o_tokeno10 o_valueo11 o_faultKindo12 o_faultPlaceo13 o_lawNow o_walkSet o_oneWidow o_oneTurn o_askWorst o_mayWalk o_oftenAll o_oftenRoad o_oftenPegs o_f14 tv64 ki_10 (by omega) (by omega) tv65 (by omega) (by omega) (by omega) hl_o_taped hh_o_taped hl_o_size hh_o_size w14 w15 w16 w17 hl_o_oneTurn hh_o_oneTurn ha_o_f14) (cwV 3 hts (gV w_1432 w_1434 wp_97 w_11 w_1435) rfl rfl rfl ⟨rfl, hd_X10_isTaken⟩ ⟨Nat.le_of_ble_eq_true rfl, Nat.le_of_ble_eq_true rfl⟩) (mV hK hZ hP hD [2, 0] rfl rfl [.int v64, .int 10, .int v65] 2 10 rfl rfl) rfl rfl hl.1 rfl (lv_room (Nat.le_of_ble_eq_true rfl)) dX10_readCell_70 ⟨Nat.le_of_ble_eq_true rfl, Nat.le_of_ble_eq_true rfl⟩) (fun r68 u69 H locs hw70 hP hD hS => ?_)
        try dsimp only at hw70
        have hP : va_P G vwCl [(b 4, .inl (cB, 900, .inl o_f4)), (h0, oX10 b o_thrown o_taped o_size o_ato8 o_fromo9 o_tokeno10 o_valueo11 o_faultKindo12 o_faultPlaceo13 o_lawNow o_walkSet o_oneWidow o_oneTurn o_askWorst o_mayWalk o_oftenAll o_oftenRoad o_oftenPegs), (b 14, .inl (cI, 149, .inl o_f14))] H := hP
        have hD : va_D A [(b 4, .inl (cB, 900, .inl o_f4)), (h0, oX10 b o_thrown o_taped o_size o_ato8 o_fromo9 o_tokeno10 o_valueo11 o_faultKindo12 o_faultPlaceo13 o_lawNow o_walkSet o_oneWidow o_oneTurn o_askWorst o_mayWalk o_oftenAll o_oftenRoad o_oftenPegs), (b 14, .inl (cI, 149, .inl o_f14))] := hD
        obtain ⟨w71, w72⟩ : 0 ≤ r68.toInt ∧ r68.toInt ≤ 1 := hw70
        refine lv_if_ne (tgt := 97) hx hb dX10_readCell_73 (by decide) (fun c73 => ?_) (fun c73 => ?_)
        · have c73 := i_ne rfl ki_0 c73
          refine lv_aload_n hx hb dX10_readCell_97 rfl (lv_at hl 2 rfl) ?_
          refine lv_iconst (v := 2) hx hb dX10_readCell_98 (by decide) ?_
          refine k_v (wc := [(h0, oX10 b o_thrown o_taped o_size o_ato8 o_fromo9 o_tokeno10 o_valueo11 o_faultKindo12 o_faultPlaceo13 o_lawNow o_walkSet o_oneWidow o_oneTurn o_askWorst o_mayWalk o_oftenAll o_oftenRoad o_oftenPegs)]) (wr := [(b 4, .inl (cB, 900, .inl o_f4)), (b 14, .inl (cI, 149, .inl o_f14))]) hP hD hS hA [1] [0, 2] rfl rfl rfl (by decide) (va_runV (As := [.int 2]) (rest := []) ⟨hx, hb, hml, hown, hts⟩ (f_X10_errs l G cI cJ cZ cB cQ _ h0 2 2 b o_thrown o_taped o_size o_ato8 o_fromo9 o_tokeno10 o_valueo11 o_faultKindo12 o_faultPlaceo13 o_lawNow o_walkSet o_oneWidow o_oneTurn o_askWorst o_mayWalk o_oftenAll o_oftenRoad o_oftenPegs ki_2 (by omega) hl_o_taped hh_o_taped hl_o_size hh_o_size w14 w15 w16 w17 hl_o_oneTurn hh_o_oneTurn) (cwV 1 hts (gV w_1400 w_1402 wp_91 w_11 w_1403) rfl rfl rfl ⟨rfl, hd_X10_errs⟩ ⟨Nat.le_of_ble_eq_true rfl, Nat.le_of_ble_eq_true rfl⟩) (mV hK hZ hP hD [1] rfl rfl [.int 2] 1 10 rfl rfl) rfl rfl hl.1 rfl (lv_room (Nat.le_of_ble_eq_true rfl)) dX10_readCell_99 ⟨Nat.le_of_ble_eq_true rfl, Nat.le_of_ble_eq_true rfl⟩) (fun u75 H locs hw76 hP hD hS => ?_)
          obtain ⟨o_faultKindo77, o_faultPlaceo78⟩ := u75
          try dsimp only at hw76
          have hP : va_P G vwCl [(b 4, .inl (cB, 900, .inl o_f4)), (b 14, .inl (cI, 149, .inl o_f14)), (h0, oX10 b o_thrown o_taped o_size o_ato8 o_fromo9 o_tokeno10 o_valueo11 o_faultKindo77 o_faultPlaceo78 o_lawNow o_walkSet o_oneWidow o_oneTurn o_askWorst o_mayWalk o_oftenAll o_oftenRoad o_oftenPegs)] H := hP
          have hD : va_D A [(b 4, .inl (cB, 900, .inl o_f4)), (b 14, .inl (cI, 149, .inl o_f14)), (h0, oX10 b o_thrown o_taped o_size o_ato8 o_fromo9 o_tokeno10 o_valueo11 o_faultKindo77 o_faultPlaceo78 o_lawNow o_walkSet o_oneWidow o_oneTurn o_askWorst o_mayWalk o_oftenAll o_oftenRoad o_oftenPegs)] := hD
          have w79 : ¬ o_faultKindo77.toInt = 0 := hw76
          refine lv_bipush (v := 10) hx hb dX10_readCell_102 (by decide) ?_
          refine lv_iload_n hx hb dX10_readCell_104 rfl (lv_at hl 1 rfl) ?_
          refine lv_imul hx hb dX10_readCell_105 ?_
          refine lv_topi (fun v80 ev80 => ?_)
          have tv80 : v80.toInt = 10 * r5.toInt := ti_mul ki_10 rfl ev80 (by omega) (by omega)
          refine lv_aload_n hx hb dX10_readCell_106 rfl (lv_at hl 2 rfl) ?_
          refine lv_iconst (v := 0) hx hb dX10_readCell_107 (by decide) ?_
          refine lv_aload_n hx hb dX10_readCell_108 rfl (lv_at hl 2 rfl) ?_
          refine va_get (D := G) (ci := 10) (v := .ref (b 14)) (C := RX10) (T := TX10) (N := 46) hx hb hts iG_X10 hown hK hP 2 rfl rfl 14 (by decide) (hts _ w_1206) (fun _ h9 => h9) rfl dX10_readCell_109 ?_
          refine lv_iconst (v := 4) hx hb dX10_readCell_112 (by decide) ?_
          refine va_iald hx hb hK hP 1 0 rfl rfl (ix_in ki_4 (by omega) (by omega)) dX10_readCell_113 ?_
          refine lv_topi (fun v81 ev81 => ?_)
          have tv81 : v81.toInt = (o_f14 4).toInt := by rw [ev81]; rfl
          obtain ⟨ia82, ib83⟩ := WB_4 ha_o_f14
          refine lv_iconst (v := 1) hx hb dX10_readCell_114 (by decide) ?_
          refine lv_isub hx hb dX10_readCell_115 ?_
          refine lv_topi (fun v84 ev84 => ?_)
          have tv84 : v84.toInt = ((o_f14 4).toInt) - 1 := ti_sub tv81 ki_1 ev84 (by omega) (by omega)
          refine k_i (wc := [(h0, oX10 b o_thrown o_taped o_size o_ato8 o_fromo9 o_tokeno10 o_valueo11 o_faultKindo77 o_faultPlaceo78 o_lawNow o_walkSet o_oneWidow o_oneTurn o_askWorst o_mayWalk o_oftenAll o_oftenRoad o_oftenPegs), (b 4, .inl (cB, 900, .inl o_f4))]) (wr := [(b 14, .inl (cI, 149, .inl o_f14))]) hP hD hS hA [2, 0] [1] rfl rfl rfl (by decide) (va_runV (As := [.int 0, .int v84]) (rest := [.int v80]) ⟨hx, hb, hml, hown, hts⟩ (f_X10_number l G cI cJ cZ cB cQ _ h0 0 0 v84 (((o_f14 4).toInt) - 1) b o_thrown o_taped o_size o_ato8 o_fromo9 o_tokeno10 o_valueo11 o_faultKindo77 o_faultPlaceo78 o_lawNow o_walkSet o_oneWidow o_oneTurn o_askWorst o_mayWalk o_oftenAll o_oftenRoad o_oftenPegs o_f4 ki_0 tv84 hl_o_taped hh_o_taped hl_o_size hh_o_size w14 w15 w16 w17 hl_o_oneTurn hh_o_oneTurn) (cwV 2 hts (gV w_1409 w_1411 wp_93 w_11 w_1412) rfl rfl rfl ⟨rfl, hd_X10_number⟩ ⟨Nat.le_of_ble_eq_true rfl, Nat.le_of_ble_eq_true rfl⟩) (mV hK hZ hP hD [2, 0] rfl rfl [.int 0, .int v84] 2 10 rfl rfl) rfl rfl hl.1 rfl (lv_room (Nat.le_of_ble_eq_true rfl)) dX10_readCell_116 ⟨Nat.le_of_ble_eq_true rfl, Nat.le_of_ble_eq_true rfl⟩) (fun r85 u86 H locs hw87 hP hD hS => ?_)
          obtain ⟨o_ato88, o_fromo89, o_tokeno90, o_valueo91, o_faultKindo92, o_faultPlaceo93⟩ := u86
          try dsimp only at hw87
          have hP : va_P G vwCl [(b 14, .inl (cI, 149, .inl o_f14)), (h0, oX10 b o_thrown o_taped o_size o_ato88 o_fromo89 o_tokeno90 o_valueo91 o_faultKindo92 o_faultPlaceo93 o_lawNow o_walkSet o_oneWidow o_oneTurn o_askWorst o_mayWalk o_oftenAll o_oftenRoad o_oftenPegs), (b 4, .inl (cB, 900, .inl o_f4))] H := hP
          have hD : va_D A [(b 14, .inl (cI, 149, .inl o_f14)), (h0, oX10 b o_thrown o_taped o_size o_ato88 o_fromo89 o_tokeno90 o_valueo91 o_faultKindo92 o_faultPlaceo93 o_lawNow o_walkSet o_oneWidow o_oneTurn o_askWorst o_mayWalk o_oftenAll o_oftenRoad o_oftenPegs), (b 4, .inl (cB, 900, .inl o_f4))] := hD
          obtain ⟨w94, w95, w96, w97, w98, w99⟩ : 0 ≤ o_ato88.toInt ∧ o_ato88.toInt ≤ 900 ∧ 0 ≤ o_fromo89.toInt ∧ o_fromo89.toInt ≤ 900 ∧ o_ato8.toInt ≤ o_ato88.toInt ∧ ((0 ≤ r85.toInt ∧ r85.toInt ≤ (((o_f14 4).toInt) - 1) ∧ o_faultKindo92.toInt = 0 ∧ o_faultKindo77.toInt = 0) ∨ (r85.toInt = 0 ∧ ¬ o_faultKindo92.toInt = 0)) := hw87
          refine lv_iadd hx hb dX10_readCell_119 ?_
          refine lv_topi (fun v100 ev100 => ?_)
          have tv100 : v100.toInt = 10 * r5.toInt + r85.toInt := ti_add tv80 rfl ev100 (by omega) (by omega)
          exact hret _ _ _ _ v100 (o_ato88, o_fromo89, o_tokeno90, o_valueo91, o_faultKindo92, o_faultPlaceo93) (hP.sub (ws' := [(h0, oX10 b o_thrown o_taped o_size o_ato88 o_fromo89 o_tokeno90 o_valueo91 o_faultKindo92 o_faultPlaceo93 o_lawNow o_walkSet o_oneWidow o_oneTurn o_askWorst o_mayWalk o_oftenAll o_oftenRoad o_oftenPegs), (b 4, .inl (cB, 900, .inl o_f4)), (b 14, .inl (cI, 149, .inl o_f14))]) [1, 2, 0] rfl) (hD.sub (ws' := [(h0, oX10 b o_thrown o_taped o_size o_ato88 o_fromo89 o_tokeno90 o_valueo91 o_faultKindo92 o_faultPlaceo93 o_lawNow o_walkSet o_oneWidow o_oneTurn o_askWorst o_mayWalk o_oftenAll o_oftenRoad o_oftenPegs), (b 4, .inl (cB, 900, .inl o_f4)), (b 14, .inl (cI, 149, .inl o_f14))]) [1, 2, 0] rfl rfl) hS dX10_readCell_120 (show 0 ≤ v100.toInt ∧ v100.toInt ≤ 77 ∧ 0 ≤ o_ato88.toInt ∧ o_ato88.toInt ≤ 900 ∧ 0 ≤ o_fromo89.toInt ∧ o_fromo89.toInt ≤ 900 ∧ o_at.toInt ≤ o_ato88.toInt ∧ (o_faultKindo92.toInt = 0 → o_faultKind.toInt = 0) ∧ (o_faultKindo92.toInt = 0 → v100.toInt / 10 < (o_f14 3).toInt ∧ v100.toInt % 10 < (o_f14 4).toInt) from ⟨(by omega), (by omega), w94, w95, w96, w97, (by omega), (by omega), (by intro q9; rw [tv100]; omega)⟩)
        · have c73 := i_eq rfl ki_0 c73
          refine lv_iload_n hx hb dX10_readCell_76 rfl (lv_at hl 3 rfl) ?_
          refine lv_if_eq (tgt := 102) hx hb dX10_readCell_77 (by decide) (fun c101 => ?_) (fun c101 => ?_)
          · have c101 := i_eq hp0 ki_0 c101
            refine lv_bipush (v := 10) hx hb dX10_readCell_102 (by decide) ?_
            refine lv_iload_n hx hb dX10_readCell_104 rfl (lv_at hl 1 rfl) ?_
            refine lv_imul hx hb dX10_readCell_105 ?_
            refine lv_topi (fun v102 ev102 => ?_)
            have tv102 : v102.toInt = 10 * r5.toInt := ti_mul ki_10 rfl ev102 (by omega) (by omega)
            refine lv_aload_n hx hb dX10_readCell_106 rfl (lv_at hl 2 rfl) ?_
            refine lv_iconst (v := 0) hx hb dX10_readCell_107 (by decide) ?_
            refine lv_aload_n hx hb dX10_readCell_108 rfl (lv_at hl 2 rfl) ?_
            refine va_get (D := G) (ci := 10) (v := .ref (b 14)) (C := RX10) (T := TX10) (N := 46) hx hb hts iG_X10 hown hK hP 1 rfl rfl 14 (by decide) (hts _ w_1206) (fun _ h9 => h9) rfl dX10_readCell_109 ?_
            refine lv_iconst (v := 4) hx hb dX10_readCell_112 (by decide) ?_
            refine va_iald hx hb hK hP 2 0 rfl rfl (ix_in ki_4 (by omega) (by omega)) dX10_readCell_113 ?_
            refine lv_topi (fun v103 ev103 => ?_)
            have tv103 : v103.toInt = (o_f14 4).toInt := by rw [ev103]; rfl
            obtain ⟨ia104, ib105⟩ := WB_4 ha_o_f14
            refine lv_iconst (v := 1) hx hb dX10_readCell_114 (by decide) ?_
            refine lv_isub hx hb dX10_readCell_115 ?_
            refine lv_topi (fun v106 ev106 => ?_)
            have tv106 : v106.toInt = ((o_f14 4).toInt) - 1 := ti_sub tv103 ki_1 ev106 (by omega) (by omega)
            refine k_i (wc := [(h0, oX10 b o_thrown o_taped o_size o_ato8 o_fromo9 o_tokeno10 o_valueo11 o_faultKindo12 o_faultPlaceo13 o_lawNow o_walkSet o_oneWidow o_oneTurn o_askWorst o_mayWalk o_oftenAll o_oftenRoad o_oftenPegs), (b 4, .inl (cB, 900, .inl o_f4))]) (wr := [(b 14, .inl (cI, 149, .inl o_f14))]) hP hD hS hA [1, 0] [2] rfl rfl rfl (by decide) (va_runV (As := [.int 0, .int v106]) (rest := [.int v102]) ⟨hx, hb, hml, hown, hts⟩ (f_X10_number l G cI cJ cZ cB cQ _ h0 0 0 v106 (((o_f14 4).toInt) - 1) b o_thrown o_taped o_size o_ato8 o_fromo9 o_tokeno10 o_valueo11 o_faultKindo12 o_faultPlaceo13 o_lawNow o_walkSet o_oneWidow o_oneTurn o_askWorst o_mayWalk o_oftenAll o_oftenRoad o_oftenPegs o_f4 ki_0 tv106 hl_o_taped hh_o_taped hl_o_size hh_o_size w14 w15 w16 w17 hl_o_oneTurn hh_o_oneTurn) (cwV 2 hts (gV w_1409 w_1411 wp_93 w_11 w_1412) rfl rfl rfl ⟨rfl, hd_X10_number⟩ ⟨Nat.le_of_ble_eq_true rfl, Nat.le_of_ble_eq_true rfl⟩) (mV hK hZ hP hD [1, 0] rfl rfl [.int 0, .int v106] 1 10 rfl rfl) rfl rfl hl.1 rfl (lv_room (Nat.le_of_ble_eq_true rfl)) dX10_readCell_116 ⟨Nat.le_of_ble_eq_true rfl, Nat.le_of_ble_eq_true rfl⟩) (fun r107 u108 H locs hw109 hP hD hS => ?_)
            obtain ⟨o_ato110, o_fromo111, o_tokeno112, o_valueo113, o_faultKindo114, o_faultPlaceo115⟩ := u108
            try dsimp only at hw109
            have hP : va_P G vwCl [(b 14, .inl (cI, 149, .inl o_f14)), (h0, oX10 b o_thrown o_taped o_size o_ato110 o_fromo111 o_tokeno112 o_valueo113 o_faultKindo114 o_faultPlaceo115 o_lawNow o_walkSet o_oneWidow o_oneTurn o_askWorst o_mayWalk o_oftenAll o_oftenRoad o_oftenPegs), (b 4, .inl (cB, 900, .inl o_f4))] H := hP
            have hD : va_D A [(b 14, .inl (cI, 149, .inl o_f14)), (h0, oX10 b o_thrown o_taped o_size o_ato110 o_fromo111 o_tokeno112 o_valueo113 o_faultKindo114 o_faultPlaceo115 o_lawNow o_walkSet o_oneWidow o_oneTurn o_askWorst o_mayWalk o_oftenAll o_oftenRoad o_oftenPegs), (b 4, .inl (cB, 900, .inl o_f4))] := hD
            obtain ⟨w116, w117, w118, w119, w120, w121⟩ : 0 ≤ o_ato110.toInt ∧ o_ato110.toInt ≤ 900 ∧ 0 ≤ o_fromo111.toInt ∧ o_fromo111.toInt ≤ 900 ∧ o_ato8.toInt ≤ o_ato110.toInt ∧ ((0 ≤ r107.toInt ∧ r107.toInt ≤ (((o_f14 4).toInt) - 1) ∧ o_faultKindo114.toInt = 0 ∧ o_faultKindo12.toInt = 0) ∨ (r107.toInt = 0 ∧ ¬ o_faultKindo114.toInt = 0)) := hw109
            refine lv_iadd hx hb dX10_readCell_119 ?_
            refine lv_topi (fun v122 ev122 => ?_)
            have tv122 : v122.toInt = 10 * r5.toInt + r107.toInt := ti_add tv102 rfl ev122 (by omega) (by omega)
            exact hret _ _ _ _ v122 (o_ato110, o_fromo111, o_tokeno112, o_valueo113, o_faultKindo114, o_faultPlaceo115) (hP.sub (ws' := [(h0, oX10 b o_thrown o_taped o_size o_ato110 o_fromo111 o_tokeno112 o_valueo113 o_faultKindo114 o_faultPlaceo115 o_lawNow o_walkSet o_oneWidow o_oneTurn o_askWorst o_mayWalk o_oftenAll o_oftenRoad o_oftenPegs), (b 4, .inl (cB, 900, .inl o_f4)), (b 14, .inl (cI, 149, .inl o_f14))]) [1, 2, 0] rfl) (hD.sub (ws' := [(h0, oX10 b o_thrown o_taped o_size o_ato110 o_fromo111 o_tokeno112 o_valueo113 o_faultKindo114 o_faultPlaceo115 o_lawNow o_walkSet o_oneWidow o_oneTurn o_askWorst o_mayWalk o_oftenAll o_oftenRoad o_oftenPegs), (b 4, .inl (cB, 900, .inl o_f4)), (b 14, .inl (cI, 149, .inl o_f14))]) [1, 2, 0] rfl rfl) hS dX10_readCell_120 (show 0 ≤ v122.toInt ∧ v122.toInt ≤ 77 ∧ 0 ≤ o_ato110.toInt ∧ o_ato110.toInt ≤ 900 ∧ 0 ≤ o_fromo111.toInt ∧ o_fromo111.toInt ≤ 900 ∧ o_at.toInt ≤ o_ato110.toInt ∧ (o_faultKindo114.toInt = 0 → o_faultKind.toInt = 0) ∧ (o_faultKindo114.toInt = 0 → v122.toInt / 10 < (o_f14 3).toInt ∧ v122.toInt % 10 < (o_f14 4).toInt) from ⟨(by omega), (by omega), w116, w117, w118, w119, (by omega), (by omega), (by intro q9; rw [tv122]; omega)⟩)
          · have c101 := i_ne hp0 ki_0 c101
            refine lv_aload_n hx hb dX10_readCell_80 rfl (lv_at hl 2 rfl) ?_
            refine lv_iload_n hx hb dX10_readCell_81 rfl (lv_at hl 0 rfl) ?_
            refine lv_bipush (v := 22) hx hb dX10_readCell_82 (by decide) ?_
            refine lv_aload_n hx hb dX10_readCell_84 rfl (lv_at hl 2 rfl) ?_
            refine va_get (D := G) (ci := 10) (v := .ref (b 14)) (C := RX10) (T := TX10) (N := 46) hx hb hts iG_X10 hown hK hP 1 rfl rfl 14 (by decide) (hts _ w_1206) (fun _ h9 => h9) rfl dX10_readCell_85 ?_
            refine lv_bipush (v := 6) hx hb dX10_readCell_88 (by decide) ?_
            refine va_iald hx hb hK hP 2 0 rfl rfl (ix_in ki_6 (by omega) (by omega)) dX10_readCell_90 ?_
            refine lv_topi (fun v123 ev123 => ?_)
            have tv123 : v123.toInt = (o_f14 6).toInt := by rw [ev123]; rfl
            obtain ⟨ia124, ib125⟩ := WB_6 ha_o_f14
            refine k_i (wc := [(h0, oX10 b o_thrown o_taped o_size o_ato8 o_fromo9 o_tokeno10 o_valueo11 o_faultKindo12 o_faultPlaceo13 o_lawNow o_walkSet o_oneWidow o_oneTurn o_askWorst o_mayWalk o_oftenAll o_oftenRoad o_oftenPegs), (b 14, .inl (cI, 149, .inl o_f14))]) (wr := [(b 4, .inl (cB, 900, .inl o_f4))]) hP hD hS hA [1, 2] [0] rfl rfl rfl (by decide) (va_runV (As := [.int v64, .int 22, .int v123]) (rest := []) ⟨hx, hb, hml, hown, hts⟩ (f_X10_isTaken l G cI cJ cZ cB cQ _ h0 v64 (10 * r5.toInt + o_valueo11.toInt) 22 22 v123 ((o_f14 6).toInt) b o_thrown o_taped o_size o_ato8 o_fromo9 o_tokeno10 o_valueo11 o_faultKindo12 o_faultPlaceo13 o_lawNow o_walkSet o_oneWidow o_oneTurn o_askWorst o_mayWalk o_oftenAll o_oftenRoad o_oftenPegs o_f14 tv64 ki_22 (by omega) (by omega) tv123 (by omega) (by omega) (by omega) hl_o_taped hh_o_taped hl_o_size hh_o_size w14 w15 w16 w17 hl_o_oneTurn hh_o_oneTurn ha_o_f14) (cwV 3 hts (gV w_1432 w_1434 wp_97 w_11 w_1435) rfl rfl rfl ⟨rfl, hd_X10_isTaken⟩ ⟨Nat.le_of_ble_eq_true rfl, Nat.le_of_ble_eq_true rfl⟩) (mV hK hZ hP hD [1, 2] rfl rfl [.int v64, .int 22, .int v123] 1 10 rfl rfl) rfl rfl hl.1 rfl (lv_room (Nat.le_of_ble_eq_true rfl)) dX10_readCell_91 ⟨Nat.le_of_ble_eq_true rfl, Nat.le_of_ble_eq_true rfl⟩) (fun r126 u127 H locs hw128 hP hD hS => ?_)
            try dsimp only at hw128
            have hP : va_P G vwCl [(b 4, .inl (cB, 900, .inl o_f4)), (h0, oX10 b o_thrown o_taped o_size o_ato8 o_fromo9 o_tokeno10 o_valueo11 o_faultKindo12 o_faultPlaceo13 o_lawNow o_walkSet o_oneWidow o_oneTurn o_askWorst o_mayWalk o_oftenAll o_oftenRoad o_oftenPegs), (b 14, .inl (cI, 149, .inl o_f14))] H := hP
            have hD : va_D A [(b 4, .inl (cB, 900, .inl o_f4)), (h0, oX10 b o_thrown o_taped o_size o_ato8 o_fromo9 o_tokeno10 o_valueo11 o_faultKindo12 o_faultPlaceo13 o_lawNow o_walkSet o_oneWidow o_oneTurn o_askWorst o_mayWalk o_oftenAll o_oftenRoad o_oftenPegs), (b 14, .inl (cI, 149, .inl o_f14))] := hD
            obtain ⟨w129, w130⟩ : 0 ≤ r126.toInt ∧ r126.toInt ≤ 1 := hw128
            refine lv_if_eq (tgt := 102) hx hb dX10_readCell_94 (by decide) (fun c131 => ?_) (fun c131 => ?_)
            · have c131 := i_eq rfl ki_0 c131
              refine lv_bipush (v := 10) hx hb dX10_readCell_102 (by decide) ?_
              refine lv_iload_n hx hb dX10_readCell_104 rfl (lv_at hl 1 rfl) ?_
              refine lv_imul hx hb dX10_readCell_105 ?_
              refine lv_topi (fun v132 ev132 => ?_)
              have tv132 : v132.toInt = 10 * r5.toInt := ti_mul ki_10 rfl ev132 (by omega) (by omega)
              refine lv_aload_n hx hb dX10_readCell_106 rfl (lv_at hl 2 rfl) ?_
              refine lv_iconst (v := 0) hx hb dX10_readCell_107 (by decide) ?_
              refine lv_aload_n hx hb dX10_readCell_108 rfl (lv_at hl 2 rfl) ?_
              refine va_get (D := G) (ci := 10) (v := .ref (b 14)) (C := RX10) (T := TX10) (N := 46) hx hb hts iG_X10 hown hK hP 1 rfl rfl 14 (by decide) (hts _ w_1206) (fun _ h9 => h9) rfl dX10_readCell_109 ?_
              refine lv_iconst (v := 4) hx hb dX10_readCell_112 (by decide) ?_
              refine va_iald hx hb hK hP 2 0 rfl rfl (ix_in ki_4 (by omega) (by omega)) dX10_readCell_113 ?_
              refine lv_topi (fun v133 ev133 => ?_)
              have tv133 : v133.toInt = (o_f14 4).toInt := by rw [ev133]; rfl
              obtain ⟨ia134, ib135⟩ := WB_4 ha_o_f14
              refine lv_iconst (v := 1) hx hb dX10_readCell_114 (by decide) ?_
              refine lv_isub hx hb dX10_readCell_115 ?_
              refine lv_topi (fun v136 ev136 => ?_)
              have tv136 : v136.toInt = ((o_f14 4).toInt) - 1 := ti_sub tv133 ki_1 ev136 (by omega) (by omega)
              refine k_i (wc := [(h0, oX10 b o_thrown o_taped o_size o_ato8 o_fromo9 o_tokeno10 o_valueo11 o_faultKindo12 o_faultPlaceo13 o_lawNow o_walkSet o_oneWidow o_oneTurn o_askWorst o_mayWalk o_oftenAll o_oftenRoad o_oftenPegs), (b 4, .inl (cB, 900, .inl o_f4))]) (wr := [(b 14, .inl (cI, 149, .inl o_f14))]) hP hD hS hA [1, 0] [2] rfl rfl rfl (by decide) (va_runV (As := [.int 0, .int v136]) (rest := [.int v132]) ⟨hx, hb, hml, hown, hts⟩ (f_X10_number l G cI cJ cZ cB cQ _ h0 0 0 v136 (((o_f14 4).toInt) - 1) b o_thrown o_taped o_size o_ato8 o_fromo9 o_tokeno10 o_valueo11 o_faultKindo12 o_faultPlaceo13 o_lawNow o_walkSet o_oneWidow o_oneTurn o_askWorst o_mayWalk o_oftenAll o_oftenRoad o_oftenPegs o_f4 ki_0 tv136 hl_o_taped hh_o_taped hl_o_size hh_o_size w14 w15 w16 w17 hl_o_oneTurn hh_o_oneTurn) (cwV 2 hts (gV w_1409 w_1411 wp_93 w_11 w_1412) rfl rfl rfl ⟨rfl, hd_X10_number⟩ ⟨Nat.le_of_ble_eq_true rfl, Nat.le_of_ble_eq_true rfl⟩) (mV hK hZ hP hD [1, 0] rfl rfl [.int 0, .int v136] 1 10 rfl rfl) rfl rfl hl.1 rfl (lv_room (Nat.le_of_ble_eq_true rfl)) dX10_readCell_116 ⟨Nat.le_of_ble_eq_true rfl, Nat.le_of_ble_eq_true rfl⟩) (fun r137 u138 H locs hw139 hP hD hS => ?_)
              obtain ⟨o_ato140, o_fromo141, o_tokeno142, o_valueo143, o_faultKindo144, o_faultPlaceo145⟩ := u138
              try dsimp only at hw139
              have hP : va_P G vwCl [(b 14, .inl (cI, 149, .inl o_f14)), (h0, oX10 b o_thrown o_taped o_size o_ato140 o_fromo141 o_tokeno142 o_valueo143 o_faultKindo144 o_faultPlaceo145 o_lawNow o_walkSet o_oneWidow o_oneTurn o_askWorst o_mayWalk o_oftenAll o_oftenRoad o_oftenPegs), (b 4, .inl (cB, 900, .inl o_f4))] H := hP
              have hD : va_D A [(b 14, .inl (cI, 149, .inl o_f14)), (h0, oX10 b o_thrown o_taped o_size o_ato140 o_fromo141 o_tokeno142 o_valueo143 o_faultKindo144 o_faultPlaceo145 o_lawNow o_walkSet o_oneWidow o_oneTurn o_askWorst o_mayWalk o_oftenAll o_oftenRoad o_oftenPegs), (b 4, .inl (cB, 900, .inl o_f4))] := hD
              obtain ⟨w146, w147, w148, w149, w150, w151⟩ : 0 ≤ o_ato140.toInt ∧ o_ato140.toInt ≤ 900 ∧ 0 ≤ o_fromo141.toInt ∧ o_fromo141.toInt ≤ 900 ∧ o_ato8.toInt ≤ o_ato140.toInt ∧ ((0 ≤ r137.toInt ∧ r137.toInt ≤ (((o_f14 4).toInt) - 1) ∧ o_faultKindo144.toInt = 0 ∧ o_faultKindo12.toInt = 0) ∨ (r137.toInt = 0 ∧ ¬ o_faultKindo144.toInt = 0)) := hw139
              refine lv_iadd hx hb dX10_readCell_119 ?_
              refine lv_topi (fun v152 ev152 => ?_)
              have tv152 : v152.toInt = 10 * r5.toInt + r137.toInt := ti_add tv132 rfl ev152 (by omega) (by omega)
              exact hret _ _ _ _ v152 (o_ato140, o_fromo141, o_tokeno142, o_valueo143, o_faultKindo144, o_faultPlaceo145) (hP.sub (ws' := [(h0, oX10 b o_thrown o_taped o_size o_ato140 o_fromo141 o_tokeno142 o_valueo143 o_faultKindo144 o_faultPlaceo145 o_lawNow o_walkSet o_oneWidow o_oneTurn o_askWorst o_mayWalk o_oftenAll o_oftenRoad o_oftenPegs), (b 4, .inl (cB, 900, .inl o_f4)), (b 14, .inl (cI, 149, .inl o_f14))]) [1, 2, 0] rfl) (hD.sub (ws' := [(h0, oX10 b o_thrown o_taped o_size o_ato140 o_fromo141 o_tokeno142 o_valueo143 o_faultKindo144 o_faultPlaceo145 o_lawNow o_walkSet o_oneWidow o_oneTurn o_askWorst o_mayWalk o_oftenAll o_oftenRoad o_oftenPegs), (b 4, .inl (cB, 900, .inl o_f4)), (b 14, .inl (cI, 149, .inl o_f14))]) [1, 2, 0] rfl rfl) hS dX10_readCell_120 (show 0 ≤ v152.toInt ∧ v152.toInt ≤ 77 ∧ 0 ≤ o_ato140.toInt ∧ o_ato140.toInt ≤ 900 ∧ 0 ≤ o_fromo141.toInt ∧ o_fromo141.toInt ≤ 900 ∧ o_at.toInt ≤ o_ato140.toInt ∧ (o_faultKindo144.toInt = 0 → o_faultKind.toInt = 0) ∧ (o_faultKindo144.toInt = 0 → v152.toInt / 10 < (o_f14 3).toInt ∧ v152.toInt % 10 < (o_f14 4).toInt) from ⟨(by omega), (by omega), w146, w147, w148, w149, (by omega), (by omega), (by intro q9; rw [tv152]; omega)⟩)
            · have c131 := i_ne rfl ki_0 c131
              refine lv_aload_n hx hb dX10_readCell_97 rfl (lv_at hl 2 rfl) ?_
              refine lv_iconst (v := 2) hx hb dX10_readCell_98 (by decide) ?_
              refine k_v (wc := [(h0, oX10 b o_thrown o_taped o_size o_ato8 o_fromo9 o_tokeno10 o_valueo11 o_faultKindo12 o_faultPlaceo13 o_lawNow o_walkSet o_oneWidow o_oneTurn o_askWorst o_mayWalk o_oftenAll o_oftenRoad o_oftenPegs)]) (wr := [(b 4, .inl (cB, 900, .inl o_f4)), (b 14, .inl (cI, 149, .inl o_f14))]) hP hD hS hA [1] [0, 2] rfl rfl rfl (by decide) (va_runV (As := [.int 2]) (rest := []) ⟨hx, hb, hml, hown, hts⟩ (f_X10_errs l G cI cJ cZ cB cQ _ h0 2 2 b o_thrown o_taped o_size o_ato8 o_fromo9 o_tokeno10 o_valueo11 o_faultKindo12 o_faultPlaceo13 o_lawNow o_walkSet o_oneWidow o_oneTurn o_askWorst o_mayWalk o_oftenAll o_oftenRoad o_oftenPegs ki_2 (by omega) hl_o_taped hh_o_taped hl_o_size hh_o_size w14 w15 w16 w17 hl_o_oneTurn hh_o_oneTurn) (cwV 1 hts (gV w_1400 w_1402 wp_91 w_11 w_1403) rfl rfl rfl ⟨rfl, hd_X10_errs⟩ ⟨Nat.le_of_ble_eq_true rfl, Nat.le_of_ble_eq_true rfl⟩) (mV hK hZ hP hD [1] rfl rfl [.int 2] 1 10 rfl rfl) rfl rfl hl.1 rfl (lv_room (Nat.le_of_ble_eq_true rfl)) dX10_readCell_99 ⟨Nat.le_of_ble_eq_true rfl, Nat.le_of_ble_eq_true rfl⟩) (fun u154 H locs hw155 hP hD hS => ?_)
              obtain ⟨o_faultKindo156, o_faultPlaceo157⟩ := u154
              try dsimp only at hw155
              have hP : va_P G vwCl [(b 4, .inl (cB, 900, .inl o_f4)), (b 14, .inl (cI, 149, .inl o_f14)), (h0, oX10 b o_thrown o_taped o_size o_ato8 o_fromo9 o_tokeno10 o_valueo11 o_faultKindo156 o_faultPlaceo157 o_lawNow o_walkSet o_oneWidow o_oneTurn o_askWorst o_mayWalk o_oftenAll o_oftenRoad o_oftenPegs)] H := hP
              have hD : va_D A [(b 4, .inl (cB, 900, .inl o_f4)), (b 14, .inl (cI, 149, .inl o_f14)), (h0, oX10 b o_thrown o_taped o_size o_ato8 o_fromo9 o_tokeno10 o_valueo11 o_faultKindo156 o_faultPlaceo157 o_lawNow o_walkSet o_oneWidow o_oneTurn o_askWorst o_mayWalk o_oftenAll o_oftenRoad o_oftenPegs)] := hD
              have w158 : ¬ o_faultKindo156.toInt = 0 := hw155
              refine lv_bipush (v := 10) hx hb dX10_readCell_102 (by decide) ?_
              refine lv_iload_n hx hb dX10_readCell_104 rfl (lv_at hl 1 rfl) ?_
              refine lv_imul hx hb dX10_readCell_105 ?_
              refine lv_topi (fun v159 ev159 => ?_)
              have tv159 : v159.toInt = 10 * r5.toInt := ti_mul ki_10 rfl ev159 (by omega) (by omega)
              refine lv_aload_n hx hb dX10_readCell_106 rfl (lv_at hl 2 rfl) ?_
              refine lv_iconst (v := 0) hx hb dX10_readCell_107 (by decide) ?_
              refine lv_aload_n hx hb dX10_readCell_108 rfl (lv_at hl 2 rfl) ?_
              refine va_get (D := G) (ci := 10) (v := .ref (b 14)) (C := RX10) (T := TX10) (N := 46) hx hb hts iG_X10 hown hK hP 2 rfl rfl 14 (by decide) (hts _ w_1206) (fun _ h9 => h9) rfl dX10_readCell_109 ?_
              refine lv_iconst (v := 4) hx hb dX10_readCell_112 (by decide) ?_
              refine va_iald hx hb hK hP 1 0 rfl rfl (ix_in ki_4 (by omega) (by omega)) dX10_readCell_113 ?_
              refine lv_topi (fun v160 ev160 => ?_)
              have tv160 : v160.toInt = (o_f14 4).toInt := by rw [ev160]; rfl
              obtain ⟨ia161, ib162⟩ := WB_4 ha_o_f14
              refine lv_iconst (v := 1) hx hb dX10_readCell_114 (by decide) ?_
              refine lv_isub hx hb dX10_readCell_115 ?_
              refine lv_topi (fun v163 ev163 => ?_)
              have tv163 : v163.toInt = ((o_f14 4).toInt) - 1 := ti_sub tv160 ki_1 ev163 (by omega) (by omega)
              refine k_i (wc := [(h0, oX10 b o_thrown o_taped o_size o_ato8 o_fromo9 o_tokeno10 o_valueo11 o_faultKindo156 o_faultPlaceo157 o_lawNow o_walkSet o_oneWidow o_oneTurn o_askWorst o_mayWalk o_oftenAll o_oftenRoad o_oftenPegs), (b 4, .inl (cB, 900, .inl o_f4))]) (wr := [(b 14, .inl (cI, 149, .inl o_f14))]) hP hD hS hA [2, 0] [1] rfl rfl rfl (by decide) (va_runV (As := [.int 0, .int v163]) (rest := [.int v159]) ⟨hx, hb, hml, hown, hts⟩ (f_X10_number l G cI cJ cZ cB cQ _ h0 0 0 v163 (((o_f14 4).toInt) - 1) b o_thrown o_taped o_size o_ato8 o_fromo9 o_tokeno10 o_valueo11 o_faultKindo156 o_faultPlaceo157 o_lawNow o_walkSet o_oneWidow o_oneTurn o_askWorst o_mayWalk o_oftenAll o_oftenRoad o_oftenPegs o_f4 ki_0 tv163 hl_o_taped hh_o_taped hl_o_size hh_o_size w14 w15 w16 w17 hl_o_oneTurn hh_o_oneTurn) (cwV 2 hts (gV w_1409 w_1411 wp_93 w_11 w_1412) rfl rfl rfl ⟨rfl, hd_X10_number⟩ ⟨Nat.le_of_ble_eq_true rfl, Nat.le_of_ble_eq_true rfl⟩) (mV hK hZ hP hD [2, 0] rfl rfl [.int 0, .int v163] 2 10 rfl rfl) rfl rfl hl.1 rfl (lv_room (Nat.le_of_ble_eq_true rfl)) dX10_readCell_116 ⟨Nat.le_of_ble_eq_true rfl, Nat.le_of_ble_eq_true rfl⟩) (fun r164 u165 H locs hw166 hP hD hS => ?_)
              obtain ⟨o_ato167, o_fromo168, o_tokeno169, o_valueo170, o_faultKindo171, o_faultPlaceo172⟩ := u165
              try dsimp only at hw166
              have hP : va_P G vwCl [(b 14, .inl (cI, 149, .inl o_f14)), (h0, oX10 b o_thrown o_taped o_size o_ato167 o_fromo168 o_tokeno169 o_valueo170 o_faultKindo171 o_faultPlaceo172 o_lawNow o_walkSet o_oneWidow o_oneTurn o_askWorst o_mayWalk o_oftenAll o_oftenRoad o_oftenPegs), (b 4, .inl (cB, 900, .inl o_f4))] H := hP
              have hD : va_D A [(b 14, .inl (cI, 149, .inl o_f14)), (h0, oX10 b o_thrown o_taped o_size o_ato167 o_fromo168 o_tokeno169 o_valueo170 o_faultKindo171 o_faultPlaceo172 o_lawNow o_walkSet o_oneWidow o_oneTurn o_askWorst o_mayWalk o_oftenAll o_oftenRoad o_oftenPegs), (b 4, .inl (cB, 900, .inl o_f4))] := hD
              obtain ⟨w173, w174, w175, w176, w177, w178⟩ : 0 ≤ o_ato167.toInt ∧ o_ato167.toInt ≤ 900 ∧ 0 ≤ o_fromo168.toInt ∧ o_fromo168.toInt ≤ 900 ∧ o_ato8.toInt ≤ o_ato167.toInt ∧ ((0 ≤ r164.toInt ∧ r164.toInt ≤ (((o_f14 4).toInt) - 1) ∧ o_faultKindo171.toInt = 0 ∧ o_faultKindo156.toInt = 0) ∨ (r164.toInt = 0 ∧ ¬ o_faultKindo171.toInt = 0)) := hw166
              refine lv_iadd hx hb dX10_readCell_119 ?_
              refine lv_topi (fun v179 ev179 => ?_)
              have tv179 : v179.toInt = 10 * r5.toInt + r164.toInt := ti_add tv159 rfl ev179 (by omega) (by omega)
              exact hret _ _ _ _ v179 (o_ato167, o_fromo168, o_tokeno169, o_valueo170, o_faultKindo171, o_faultPlaceo172) (hP.sub (ws' := [(h0, oX10 b o_thrown o_taped o_size o_ato167 o_fromo168 o_tokeno169 o_valueo170 o_faultKindo171 o_faultPlaceo172 o_lawNow o_walkSet o_oneWidow o_oneTurn o_askWorst o_mayWalk o_oftenAll o_oftenRoad o_oftenPegs), (b 4, .inl (cB, 900, .inl o_f4)), (b 14, .inl (cI, 149, .inl o_f14))]) [1, 2, 0] rfl) (hD.sub (ws' := [(h0, oX10 b o_thrown o_taped o_size o_ato167 o_fromo168 o_tokeno169 o_valueo170 o_faultKindo171 o_faultPlaceo172 o_lawNow o_walkSet o_oneWidow o_oneTurn o_askWorst o_mayWalk o_oftenAll o_oftenRoad o_oftenPegs), (b 4, .inl (cB, 900, .inl o_f4)), (b 14, .inl (cI, 149, .inl o_f14))]) [1, 2, 0] rfl rfl) hS dX10_readCell_120 (show 0 ≤ v179.toInt ∧ v179.toInt ≤ 77 ∧ 0 ≤ o_ato167.toInt ∧ o_ato167.toInt ≤ 900 ∧ 0 ≤ o_fromo168.toInt ∧ o_fromo168.toInt ≤ 900 ∧ o_at.toInt ≤ o_ato167.toInt ∧ (o_faultKindo171.toInt = 0 → o_faultKind.toInt = 0) ∧ (o_faultKindo171.toInt = 0 → v179.toInt / 10 < (o_f14 3).toInt ∧ v179.toInt % 10 < (o_f14 4).toInt) from ⟨(by omega), (by omega), w173, w174, w175, w176, (by omega), (by omega), (by intro q9; rw [tv179]; omega)⟩)
      · skip
        refine lv_if_eq (tgt := 102) hx hb dX10_readCell_47 (by decide) (fun c180 => ?_) (fun c180 => absurd (by decide) c180)
        refine lv_bipush (v := 10) hx hb dX10_readCell_102 (by decide) ?_
        refine lv_iload_n hx hb dX10_readCell_104 rfl (lv_at hl 0 rfl) ?_
        refine lv_imul hx hb dX10_readCell_105 ?_
        refine lv_topi (fun v181 ev181 => ?_)
        have tv181 : v181.toInt = 10 * r5.toInt := ti_mul ki_10 rfl ev181 (by omega) (by omega)
        refine lv_aload_n hx hb dX10_readCell_106 rfl (lv_at hl 1 rfl) ?_
        refine lv_iconst (v := 0) hx hb dX10_readCell_107 (by decide) ?_
        refine lv_aload_n hx hb dX10_readCell_108 rfl (lv_at hl 1 rfl) ?_
        refine va_get (D := G) (ci := 10) (v := .ref (b 14)) (C := RX10) (T := TX10) (N := 46) hx hb hts iG_X10 hown hK hP 2 rfl rfl 14 (by decide) (hts _ w_1206) (fun _ h9 => h9) rfl dX10_readCell_109 ?_
        refine lv_iconst (v := 4) hx hb dX10_readCell_112 (by decide) ?_
        refine va_iald hx hb hK hP 0 0 rfl rfl (ix_in ki_4 (by omega) (by omega)) dX10_readCell_113 ?_
        refine lv_topi (fun v182 ev182 => ?_)
        have tv182 : v182.toInt = (o_f14 4).toInt := by rw [ev182]; rfl
        obtain ⟨ia183, ib184⟩ := WB_4 ha_o_f14
        refine lv_iconst (v := 1) hx hb dX10_readCell_114 (by decide) ?_
        refine lv_isub hx hb dX10_readCell_115 ?_
        refine lv_topi (fun v185 ev185 => ?_)
        have tv185 : v185.toInt = ((o_f14 4).toInt) - 1 := ti_sub tv182 ki_1 ev185 (by omega) (by omega)
        refine k_i (wc := [(h0, oX10 b o_thrown o_taped o_size o_ato8 o_fromo9 o_tokeno10 o_valueo11 o_faultKindo12 o_faultPlaceo13 o_lawNow o_walkSet o_oneWidow o_oneTurn o_askWorst o_mayWalk o_oftenAll o_oftenRoad o_oftenPegs), (b 4, .inl (cB, 900, .inl o_f4))]) (wr := [(b 14, .inl (cI, 149, .inl o_f14))]) hP hD hS hA [2, 1] [0] rfl rfl rfl (by decide) (va_runV (As := [.int 0, .int v185]) (rest := [.int v181]) ⟨hx, hb, hml, hown, hts⟩ (f_X10_number l G cI cJ cZ cB cQ _ h0 0 0 v185 (((o_f14 4).toInt) - 1) b o_thrown o_taped o_size o_ato8 o_fromo9 o_tokeno10 o_valueo11 o_faultKindo12 o_faultPlaceo13 o_lawNow o_walkSet o_oneWidow o_oneTurn o_askWorst o_mayWalk o_oftenAll o_oftenRoad o_oftenPegs o_f4 ki_0 tv185 hl_o_taped hh_o_taped hl_o_size hh_o_size w14 w15 w16 w17 hl_o_oneTurn hh_o_oneTurn) (cwV 2 hts (gV w_1409 w_1411 wp_93 w_11 w_1412) rfl rfl rfl ⟨rfl, hd_X10_number⟩ ⟨Nat.le_of_ble_eq_true rfl, Nat.le_of_ble_eq_true rfl⟩) (mV hK hZ hP hD [2, 1] rfl rfl [.int 0, .int v185] 2 10 rfl rfl) rfl rfl hl.1 rfl (lv_room (Nat.le_of_ble_eq_true rfl)) dX10_readCell_116 ⟨Nat.le_of_ble_eq_true rfl, Nat.le_of_ble_eq_true rfl⟩) (fun r186 u187 H locs hw188 hP hD hS => ?_)
        obtain ⟨o_ato189, o_fromo190, o_tokeno191, o_valueo192, o_faultKindo193, o_faultPlaceo194⟩ := u187
        try dsimp only at hw188
        have hP : va_P G vwCl [(b 14, .inl (cI, 149, .inl o_f14)), (h0, oX10 b o_thrown o_taped o_size o_ato189 o_fromo190 o_tokeno191 o_valueo192 o_faultKindo193 o_faultPlaceo194 o_lawNow o_walkSet o_oneWidow o_oneTurn o_askWorst o_mayWalk o_oftenAll o_oftenRoad o_oftenPegs), (b 4, .inl (cB, 900, .inl o_f4))] H := hP
        have hD : va_D A [(b 14, .inl (cI, 149, .inl o_f14)), (h0, oX10 b o_thrown o_taped o_size o_ato189 o_fromo190 o_tokeno191 o_valueo192 o_faultKindo193 o_faultPlaceo194 o_lawNow o_walkSet o_oneWidow o_oneTurn o_askWorst o_mayWalk o_oftenAll o_oftenRoad o_oftenPegs), (b 4, .inl (cB, 900, .inl o_f4))] := hD
        obtain ⟨w195, w196, w197, w198, w199, w200⟩ : 0 ≤ o_ato189.toInt ∧ o_ato189.toInt ≤ 900 ∧ 0 ≤ o_fromo190.toInt ∧ o_fromo190.toInt ≤ 900 ∧ o_ato8.toInt ≤ o_ato189.toInt ∧ ((0 ≤ r186.toInt ∧ r186.toInt ≤ (((o_f14 4).toInt) - 1) ∧ o_faultKindo193.toInt = 0 ∧ o_faultKindo12.toInt = 0) ∨ (r186.toInt = 0 ∧ ¬ o_faultKindo193.toInt = 0)) := hw188
        refine lv_iadd hx hb dX10_readCell_119 ?_
        refine lv_topi (fun v201 ev201 => ?_)
        have tv201 : v201.toInt = 10 * r5.toInt + r186.toInt := ti_add tv181 rfl ev201 (by omega) (by omega)
        exact hret _ _ _ _ v201 (o_ato189, o_fromo190, o_tokeno191, o_valueo192, o_faultKindo193, o_faultPlaceo194) (hP.sub (ws' := [(h0, oX10 b o_thrown o_taped o_size o_ato189 o_fromo190 o_tokeno191 o_valueo192 o_faultKindo193 o_faultPlaceo194 o_lawNow o_walkSet o_oneWidow o_oneTurn o_askWorst o_mayWalk o_oftenAll o_oftenRoad o_oftenPegs), (b 4, .inl (cB, 900, .inl o_f4)), (b 14, .inl (cI, 149, .inl o_f14))]) [1, 2, 0] rfl) (hD.sub (ws' := [(h0, oX10 b o_thrown o_taped o_size o_ato189 o_fromo190 o_tokeno191 o_valueo192 o_faultKindo193 o_faultPlaceo194 o_lawNow o_walkSet o_oneWidow o_oneTurn o_askWorst o_mayWalk o_oftenAll o_oftenRoad o_oftenPegs), (b 4, .inl (cB, 900, .inl o_f4)), (b 14, .inl (cI, 149, .inl o_f14))]) [1, 2, 0] rfl rfl) hS dX10_readCell_120 (show 0 ≤ v201.toInt ∧ v201.toInt ≤ 77 ∧ 0 ≤ o_ato189.toInt ∧ o_ato189.toInt ≤ 900 ∧ 0 ≤ o_fromo190.toInt ∧ o_fromo190.toInt ≤ 900 ∧ o_at.toInt ≤ o_ato189.toInt ∧ (o_faultKindo193.toInt = 0 → o_faultKind.toInt = 0) ∧ (o_faultKindo193.toInt = 0 → v201.toInt / 10 < (o_f14 3).toInt ∧ v201.toInt % 10 < (o_f14 4).toInt) from ⟨(by omega), (by omega), w195, w196, w197, w198, (by omega), (by omega), (by intro q9; rw [tv201]; omega)⟩)
  · skip
    refine lv_if_eq (tgt := 102) hx hb dX10_readCell_18 (by decide) (fun c202 => ?_) (fun c202 => absurd (by decide) c202)
    refine lv_bipush (v := 10) hx hb dX10_readCell_102 (by decide) ?_
    refine lv_iload_n hx hb dX10_readCell_104 rfl (lv_at hl 0 rfl) ?_
    refine lv_imul hx hb dX10_readCell_105 ?_
    refine lv_topi (fun v203 ev203 => ?_)
    have tv203 : v203.toInt = 10 * r5.toInt := ti_mul ki_10 rfl ev203 (by omega) (by omega)
    refine lv_aload_n hx hb dX10_readCell_106 rfl (lv_at hl 1 rfl) ?_
    refine lv_iconst (v := 0) hx hb dX10_readCell_107 (by decide) ?_
    refine lv_aload_n hx hb dX10_readCell_108 rfl (lv_at hl 1 rfl) ?_
    refine va_get (D := G) (ci := 10) (v := .ref (b 14)) (C := RX10) (T := TX10) (N := 46) hx hb hts iG_X10 hown hK hP 2 rfl rfl 14 (by decide) (hts _ w_1206) (fun _ h9 => h9) rfl dX10_readCell_109 ?_
    refine lv_iconst (v := 4) hx hb dX10_readCell_112 (by decide) ?_
    refine va_iald hx hb hK hP 0 0 rfl rfl (ix_in ki_4 (by omega) (by omega)) dX10_readCell_113 ?_
    refine lv_topi (fun v204 ev204 => ?_)
    have tv204 : v204.toInt = (o_f14 4).toInt := by rw [ev204]; rfl
    obtain ⟨ia205, ib206⟩ := WB_4 ha_o_f14
    refine lv_iconst (v := 1) hx hb dX10_readCell_114 (by decide) ?_
    refine lv_isub hx hb dX10_readCell_115 ?_
    refine lv_topi (fun v207 ev207 => ?_)
    have tv207 : v207.toInt = ((o_f14 4).toInt) - 1 := ti_sub tv204 ki_1 ev207 (by omega) (by omega)
    refine k_i (wc := [(h0, oX10 b o_thrown o_taped o_size o_ato8 o_fromo9 o_tokeno10 o_valueo11 o_faultKindo12 o_faultPlaceo13 o_lawNow o_walkSet o_oneWidow o_oneTurn o_askWorst o_mayWalk o_oftenAll o_oftenRoad o_oftenPegs), (b 4, .inl (cB, 900, .inl o_f4))]) (wr := [(b 14, .inl (cI, 149, .inl o_f14))]) hP hD hS hA [2, 1] [0] rfl rfl rfl (by decide) (va_runV (As := [.int 0, .int v207]) (rest := [.int v203]) ⟨hx, hb, hml, hown, hts⟩ (f_X10_number l G cI cJ cZ cB cQ _ h0 0 0 v207 (((o_f14 4).toInt) - 1) b o_thrown o_taped o_size o_ato8 o_fromo9 o_tokeno10 o_valueo11 o_faultKindo12 o_faultPlaceo13 o_lawNow o_walkSet o_oneWidow o_oneTurn o_askWorst o_mayWalk o_oftenAll o_oftenRoad o_oftenPegs o_f4 ki_0 tv207 hl_o_taped hh_o_taped hl_o_size hh_o_size w14 w15 w16 w17 hl_o_oneTurn hh_o_oneTurn) (cwV 2 hts (gV w_1409 w_1411 wp_93 w_11 w_1412) rfl rfl rfl ⟨rfl, hd_X10_number⟩ ⟨Nat.le_of_ble_eq_true rfl, Nat.le_of_ble_eq_true rfl⟩) (mV hK hZ hP hD [2, 1] rfl rfl [.int 0, .int v207] 2 10 rfl rfl) rfl rfl hl.1 rfl (lv_room (Nat.le_of_ble_eq_true rfl)) dX10_readCell_116 ⟨Nat.le_of_ble_eq_true rfl, Nat.le_of_ble_eq_true rfl⟩) (fun r208 u209 H locs hw210 hP hD hS => ?_)
    obtain ⟨o_ato211, o_fromo212, o_tokeno213, o_valueo214, o_faultKindo215, o_faultPlaceo216⟩ := u209
    try dsimp only at hw210
    have hP : va_P G vwCl [(b 14, .inl (cI, 149, .inl o_f14)), (h0, oX10 b o_thrown o_taped o_size o_ato211 o_fromo212 o_tokeno213 o_valueo214 o_faultKindo215 o_faultPlaceo216 o_lawNow o_walkSet o_oneWidow o_oneTurn o_askWorst o_mayWalk o_oftenAll o_oftenRoad o_oftenPegs), (b 4, .inl (cB, 900, .inl o_f4))] H := hP
    have hD : va_D A [(b 14, .inl (cI, 149, .inl o_f14)), (h0, oX10 b o_thrown o_taped o_size o_ato211 o_fromo212 o_tokeno213 o_valueo214 o_faultKindo215 o_faultPlaceo216 o_lawNow o_walkSet o_oneWidow o_oneTurn o_askWorst o_mayWalk o_oftenAll o_oftenRoad o_oftenPegs), (b 4, .inl (cB, 900, .inl o_f4))] := hD
    obtain ⟨w217, w218, w219, w220, w221, w222⟩ : 0 ≤ o_ato211.toInt ∧ o_ato211.toInt ≤ 900 ∧ 0 ≤ o_fromo212.toInt ∧ o_fromo212.toInt ≤ 900 ∧ o_ato8.toInt ≤ o_ato211.toInt ∧ ((0 ≤ r208.toInt ∧ r208.toInt ≤ (((o_f14 4).toInt) - 1) ∧ o_faultKindo215.toInt = 0 ∧ o_faultKindo12.toInt = 0) ∨ (r208.toInt = 0 ∧ ¬ o_faultKindo215.toInt = 0)) := hw210
    refine lv_iadd hx hb dX10_readCell_119 ?_
    refine lv_topi (fun v223 ev223 => ?_)
    have tv223 : v223.toInt = 10 * r5.toInt + r208.toInt := ti_add tv203 rfl ev223 (by omega) (by omega)
    exact hret _ _ _ _ v223 (o_ato211, o_fromo212, o_tokeno213, o_valueo214, o_faultKindo215, o_faultPlaceo216) (hP.sub (ws' := [(h0, oX10 b o_thrown o_taped o_size o_ato211 o_fromo212 o_tokeno213 o_valueo214 o_faultKindo215 o_faultPlaceo216 o_lawNow o_walkSet o_oneWidow o_oneTurn o_askWorst o_mayWalk o_oftenAll o_oftenRoad o_oftenPegs), (b 4, .inl (cB, 900, .inl o_f4)), (b 14, .inl (cI, 149, .inl o_f14))]) [1, 2, 0] rfl) (hD.sub (ws' := [(h0, oX10 b o_thrown o_taped o_size o_ato211 o_fromo212 o_tokeno213 o_valueo214 o_faultKindo215 o_faultPlaceo216 o_lawNow o_walkSet o_oneWidow o_oneTurn o_askWorst o_mayWalk o_oftenAll o_oftenRoad o_oftenPegs), (b 4, .inl (cB, 900, .inl o_f4)), (b 14, .inl (cI, 149, .inl o_f14))]) [1, 2, 0] rfl rfl) hS dX10_readCell_120 (show 0 ≤ v223.toInt ∧ v223.toInt ≤ 77 ∧ 0 ≤ o_ato211.toInt ∧ o_ato211.toInt ≤ 900 ∧ 0 ≤ o_fromo212.toInt ∧ o_fromo212.toInt ≤ 900 ∧ o_at.toInt ≤ o_ato211.toInt ∧ (o_faultKindo215.toInt = 0 → o_faultKind.toInt = 0) ∧ (o_faultKindo215.toInt = 0 → v223.toInt / 10 < (o_f14 3).toInt ∧ v223.toInt % 10 < (o_f14 4).toInt) from ⟨(by omega), (by omega), w217, w218, w219, w220, (by omega), (by omega), (by intro q9; rw [tv223]; omega)⟩)
set_option maxHeartbeats 4000000 in
set_option maxRecDepth 100000 in
theorem f_X10_turnWord (l : Launch) (G : va_G) (cI cJ cZ cB cQ : ClassId) (sz : Nat) (ad : AdS) (fm : Option Nat) (h0 : Nat) (b : Nat → Nat) (o_thrown : Int32) (o_taped : Int32) (o_size : Int32) (o_at : Int32) (o_from : Int32) (o_token : Int32) (o_value : Int32) (o_faultKind : Int32) (o_faultPlace : Int32) (o_lawNow : Int32) (o_walkSet : Int32) (o_oneWidow : Int32) (o_oneTurn : Int32) (o_askWorst : Int32) (o_mayWalk : Int32) (o_oftenAll : Int64) (o_oftenRoad : Int64) (o_oftenPegs : Int64) (o_f4 : Nat → Int32) (hl_o_taped : 0 ≤ o_taped.toInt) (hh_o_taped : o_taped.toInt ≤ 900) (hl_o_size : 0 ≤ o_size.toInt) (hh_o_size : o_size.toInt ≤ 900) (hl_o_at : 0 ≤ o_at.toInt) (hh_o_at : o_at.toInt ≤ 900) (hl_o_from : 0 ≤ o_from.toInt) (hh_o_from : o_from.toInt ≤ 900) (hl_o_oneTurn : 0 ≤ o_oneTurn.toInt) (hh_o_oneTurn : o_oneTurn.toInt ≤ 4) : CIs l yX10_turnWord (wl_ yX10_turnWord cX10_turnWord 1 (some .int)) ({ frames := 5, cells := 0, slots := 0, locals := 108 } : Room) G (TY cI cJ cZ cB cQ) [.ref h0] [(h0, oX10 b o_thrown o_taped o_size o_at o_from o_token o_value o_faultKind o_faultPlace o_lawNow o_walkSet o_oneWidow o_oneTurn o_askWorst o_mayWalk o_oftenAll o_oftenRoad o_oftenPegs), (b 4, .inl (cB, 900, .inl o_f4))] sz ad fm (fun (r : Int32) (u : Unit) => (-1) ≤ r.toInt ∧ r.toInt ≤ 3) (fun _ : Unit => [(h0, oX10 b o_thrown o_taped o_size o_at o_from o_token o_value o_faultKind o_faultPlace o_lawNow o_walkSet o_oneWidow o_oneTurn o_askWorst o_mayWalk o_oftenAll o_oftenRoad o_oftenPegs), (b 4, .inl (cB, 900, .inl o_f4))]) 0 0 := by
  refine CIs.go (cc := cX10_turnWord) (maxL := 1) (ret := (some .int)) (by decide) rfl (Nat.le_of_ble_eq_true rfl) ?_
  intro p e s m below meth c A ls Q hBd hE hret
  obtain ⟨hx, hb, hr, hml, hts, hown, hlk, hnm, hP, hK, hD, hA, hZ, hl⟩ := hBd
  have hown : s.vm.findClass RX10 = some m.cls := hown
  have hl : lv_has ls 1 [(0, .ref h0)] := hl
  have hS : va_S A s.heap s.heap [] := va_S.rf
  refine lv_aload_n hx hb dX10_turnWord_0 rfl (lv_at hl 0 rfl) ?_
  refine va_ldcS hx hb hown (show vk_R "WidowRoadsModel" 215 "on" (ad.1 30) s from hE.2.2.2 30 (by decide)) dX10_turnWord_1 ?_
  refine k_i (wc := [(h0, oX10 b o_thrown o_taped o_size o_at o_from o_token o_value o_faultKind o_faultPlace o_lawNow o_walkSet o_oneWidow o_oneTurn o_askWorst o_mayWalk o_oftenAll o_oftenRoad o_oftenPegs), (b 4, .inl (cB, 900, .inl o_f4))]) (wr := []) hP hD hS hA [0, 1] [] rfl rfl rfl (by decide) (va_runV (As := [.ref (ad.1 30)]) (rest := []) ⟨hx, hb, hml, hown, hts⟩ (f_X10_is l G cI cJ cZ cB cQ _ ad fm h0 30 b o_thrown o_taped o_size o_at o_from o_token o_value o_faultKind o_faultPlace o_lawNow o_walkSet o_oneWidow o_oneTurn o_askWorst o_mayWalk o_oftenAll o_oftenRoad o_oftenPegs o_f4 (by decide) hl_o_taped hh_o_taped hl_o_size hh_o_size hl_o_at hh_o_at hl_o_from hh_o_from hl_o_oneTurn hh_o_oneTurn) (cwV 1 hts (gV w_1394 w_1396 wp_90 w_11 w_1397) rfl rfl rfl ⟨rfl, hd_X10_is⟩ ⟨Nat.le_of_ble_eq_true rfl, Nat.le_of_ble_eq_true rfl⟩) (mVs hK hZ hP hD hE hS hA [0, 1] rfl rfl [.ref (ad.1 30)] 0 10 rfl rfl) rfl rfl hl.1 rfl (lv_room (Nat.le_of_ble_eq_true rfl)) dX10_turnWord_3 ⟨Nat.le_of_ble_eq_true rfl, Nat.le_of_ble_eq_true rfl⟩) (fun r1 u2 H locs hw3 hP hD hS => ?_)
  try dsimp only at hw3
  have hP : va_P G vwCl [(h0, oX10 b o_thrown o_taped o_size o_at o_from o_token o_value o_faultKind o_faultPlace o_lawNow o_walkSet o_oneWidow o_oneTurn o_askWorst o_mayWalk o_oftenAll o_oftenRoad o_oftenPegs), (b 4, .inl (cB, 900, .inl o_f4))] H := hP
  have hD : va_D A [(h0, oX10 b o_thrown o_taped o_size o_at o_from o_token o_value o_faultKind o_faultPlace o_lawNow o_walkSet o_oneWidow o_oneTurn o_askWorst o_mayWalk o_oftenAll o_oftenRoad o_oftenPegs), (b 4, .inl (cB, 900, .inl o_f4))] := hD
  rcases hw3 with ⟨rfl, a5⟩ | ⟨rfl, a6⟩
  · skip
    refine lv_if_eq (tgt := 13) hx hb dX10_turnWord_6 (by decide) (fun c7 => absurd c7 (by decide)) (fun c7 => ?_)
    refine lv_iconst (v := 0) hx hb dX10_turnWord_9 (by decide) ?_
    refine lv_goto (tgt := 53) hx hb dX10_turnWord_10 (by decide) ?_
    exact hret _ _ _ _ 0 () hP hD hS dX10_turnWord_53 (show (-1) ≤ (0 : Int32).toInt ∧ (0 : Int32).toInt ≤ 3 from ⟨(by rw [ki_0]; decide), (by rw [ki_0]; decide)⟩)
  · skip
    refine lv_if_eq (tgt := 13) hx hb dX10_turnWord_6 (by decide) (fun c8 => ?_) (fun c8 => absurd (by decide) c8)
    refine lv_aload_n hx hb dX10_turnWord_13 rfl (lv_at hl 0 rfl) ?_
    refine va_ldcS hx hb hown (show vk_R "WidowRoadsModel" 217 "right" (ad.1 31) s from hE.2.2.2 31 (by decide)) dX10_turnWord_14 ?_
    refine k_i (wc := [(h0, oX10 b o_thrown o_taped o_size o_at o_from o_token o_value o_faultKind o_faultPlace o_lawNow o_walkSet o_oneWidow o_oneTurn o_askWorst o_mayWalk o_oftenAll o_oftenRoad o_oftenPegs), (b 4, .inl (cB, 900, .inl o_f4))]) (wr := []) hP hD hS hA [0, 1] [] rfl rfl rfl (by decide) (va_runV (As := [.ref (ad.1 31)]) (rest := []) ⟨hx, hb, hml, hown, hts⟩ (f_X10_is l G cI cJ cZ cB cQ _ ad fm h0 31 b o_thrown o_taped o_size o_at o_from o_token o_value o_faultKind o_faultPlace o_lawNow o_walkSet o_oneWidow o_oneTurn o_askWorst o_mayWalk o_oftenAll o_oftenRoad o_oftenPegs o_f4 (by decide) hl_o_taped hh_o_taped hl_o_size hh_o_size hl_o_at hh_o_at hl_o_from hh_o_from hl_o_oneTurn hh_o_oneTurn) (cwV 1 hts (gV w_1394 w_1396 wp_90 w_11 w_1397) rfl rfl rfl ⟨rfl, hd_X10_is⟩ ⟨Nat.le_of_ble_eq_true rfl, Nat.le_of_ble_eq_true rfl⟩) (mVs hK hZ hP hD hE hS hA [0, 1] rfl rfl [.ref (ad.1 31)] 0 10 rfl rfl) rfl rfl hl.1 rfl (lv_room (Nat.le_of_ble_eq_true rfl)) dX10_turnWord_16 ⟨Nat.le_of_ble_eq_true rfl, Nat.le_of_ble_eq_true rfl⟩) (fun r9 u10 H locs hw11 hP hD hS => ?_)
    try dsimp only at hw11
    have hP : va_P G vwCl [(h0, oX10 b o_thrown o_taped o_size o_at o_from o_token o_value o_faultKind o_faultPlace o_lawNow o_walkSet o_oneWidow o_oneTurn o_askWorst o_mayWalk o_oftenAll o_oftenRoad o_oftenPegs), (b 4, .inl (cB, 900, .inl o_f4))] H := hP
    have hD : va_D A [(h0, oX10 b o_thrown o_taped o_size o_at o_from o_token o_value o_faultKind o_faultPlace o_lawNow o_walkSet o_oneWidow o_oneTurn o_askWorst o_mayWalk o_oftenAll o_oftenRoad o_oftenPegs), (b 4, .inl (cB, 900, .inl o_f4))] := hD
    rcases hw11 with ⟨rfl, a13⟩ | ⟨rfl, a14⟩
    · skip
      refine lv_if_eq (tgt := 26) hx hb dX10_turnWord_19 (by decide) (fun c15 => absurd c15 (by decide)) (fun c15 => ?_)
      refine lv_iconst (v := 1) hx hb dX10_turnWord_22 (by decide) ?_
      refine lv_goto (tgt := 53) hx hb dX10_turnWord_23 (by decide) ?_
      exact hret _ _ _ _ 1 () hP hD hS dX10_turnWord_53 (show (-1) ≤ (1 : Int32).toInt ∧ (1 : Int32).toInt ≤ 3 from ⟨(by rw [ki_1]; decide), (by rw [ki_1]; decide)⟩)
    · skip
      refine lv_if_eq (tgt := 26) hx hb dX10_turnWord_19 (by decide) (fun c16 => ?_) (fun c16 => absurd (by decide) c16)
      refine lv_aload_n hx hb dX10_turnWord_26 rfl (lv_at hl 0 rfl) ?_
      refine va_ldcS hx hb hown (show vk_R "WidowRoadsModel" 219 "back" (ad.1 32) s from hE.2.2.2 32 (by decide)) dX10_turnWord_27 ?_
      refine k_i (wc := [(h0, oX10 b o_thrown o_taped o_size o_at o_from o_token o_value o_faultKind o_faultPlace o_lawNow o_walkSet o_oneWidow o_oneTurn o_askWorst o_mayWalk o_oftenAll o_oftenRoad o_oftenPegs), (b 4, .inl (cB, 900, .inl o_f4))]) (wr := []) hP hD hS hA [0, 1] [] rfl rfl rfl (by decide) (va_runV (As := [.ref (ad.1 32)]) (rest := []) ⟨hx, hb, hml, hown, hts⟩ (f_X10_is l G cI cJ cZ cB cQ _ ad fm h0 32 b o_thrown o_taped o_size o_at o_from o_token o_value o_faultKind o_faultPlace o_lawNow o_walkSet o_oneWidow o_oneTurn o_askWorst o_mayWalk o_oftenAll o_oftenRoad o_oftenPegs o_f4 (by decide) hl_o_taped hh_o_taped hl_o_size hh_o_size hl_o_at hh_o_at hl_o_from hh_o_from hl_o_oneTurn hh_o_oneTurn) (cwV 1 hts (gV w_1394 w_1396 wp_90 w_11 w_1397) rfl rfl rfl ⟨rfl, hd_X10_is⟩ ⟨Nat.le_of_ble_eq_true rfl, Nat.le_of_ble_eq_true rfl⟩) (mVs hK hZ hP hD hE hS hA [0, 1] rfl rfl [.ref (ad.1 32)] 0 10 rfl rfl) rfl rfl hl.1 rfl (lv_room (Nat.le_of_ble_eq_true rfl)) dX10_turnWord_29 ⟨Nat.le_of_ble_eq_true rfl, Nat.le_of_ble_eq_true rfl⟩) (fun r17 u18 H locs hw19 hP hD hS => ?_)
      try dsimp only at hw19
      have hP : va_P G vwCl [(h0, oX10 b o_thrown o_taped o_size o_at o_from o_token o_value o_faultKind o_faultPlace o_lawNow o_walkSet o_oneWidow o_oneTurn o_askWorst o_mayWalk o_oftenAll o_oftenRoad o_oftenPegs), (b 4, .inl (cB, 900, .inl o_f4))] H := hP
      have hD : va_D A [(h0, oX10 b o_thrown o_taped o_size o_at o_from o_token o_value o_faultKind o_faultPlace o_lawNow o_walkSet o_oneWidow o_oneTurn o_askWorst o_mayWalk o_oftenAll o_oftenRoad o_oftenPegs), (b 4, .inl (cB, 900, .inl o_f4))] := hD
      rcases hw19 with ⟨rfl, a21⟩ | ⟨rfl, a22⟩
      · skip
        refine lv_if_eq (tgt := 39) hx hb dX10_turnWord_32 (by decide) (fun c23 => absurd c23 (by decide)) (fun c23 => ?_)
        refine lv_iconst (v := 2) hx hb dX10_turnWord_35 (by decide) ?_
        refine lv_goto (tgt := 53) hx hb dX10_turnWord_36 (by decide) ?_
        exact hret _ _ _ _ 2 () hP hD hS dX10_turnWord_53 (show (-1) ≤ (2 : Int32).toInt ∧ (2 : Int32).toInt ≤ 3 from ⟨(by rw [ki_2]; decide), (by rw [ki_2]; decide)⟩)
      · skip
        refine lv_if_eq (tgt := 39) hx hb dX10_turnWord_32 (by decide) (fun c24 => ?_) (fun c24 => absurd (by decide) c24)
        refine lv_aload_n hx hb dX10_turnWord_39 rfl (lv_at hl 0 rfl) ?_
        refine va_ldcS hx hb hown (show vk_R "WidowRoadsModel" 221 "left" (ad.1 33) s from hE.2.2.2 33 (by decide)) dX10_turnWord_40 ?_
        refine k_i (wc := [(h0, oX10 b o_thrown o_taped o_size o_at o_from o_token o_value o_faultKind o_faultPlace o_lawNow o_walkSet o_oneWidow o_oneTurn o_askWorst o_mayWalk o_oftenAll o_oftenRoad o_oftenPegs), (b 4, .inl (cB, 900, .inl o_f4))]) (wr := []) hP hD hS hA [0, 1] [] rfl rfl rfl (by decide) (va_runV (As := [.ref (ad.1 33)]) (rest := []) ⟨hx, hb, hml, hown, hts⟩ (f_X10_is l G cI cJ cZ cB cQ _ ad fm h0 33 b o_thrown o_taped o_size o_at o_from o_token o_value o_faultKind o_faultPlace o_lawNow o_walkSet o_oneWidow o_oneTurn o_askWorst o_mayWalk o_oftenAll o_oftenRoad o_oftenPegs o_f4 (by decide) hl_o_taped hh_o_taped hl_o_size hh_o_size hl_o_at hh_o_at hl_o_from hh_o_from hl_o_oneTurn hh_o_oneTurn) (cwV 1 hts (gV w_1394 w_1396 wp_90 w_11 w_1397) rfl rfl rfl ⟨rfl, hd_X10_is⟩ ⟨Nat.le_of_ble_eq_true rfl, Nat.le_of_ble_eq_true rfl⟩) (mVs hK hZ hP hD hE hS hA [0, 1] rfl rfl [.ref (ad.1 33)] 0 10 rfl rfl) rfl rfl hl.1 rfl (lv_room (Nat.le_of_ble_eq_true rfl)) dX10_turnWord_42 ⟨Nat.le_of_ble_eq_true rfl, Nat.le_of_ble_eq_true rfl⟩) (fun r25 u26 H locs hw27 hP hD hS => ?_)
        try dsimp only at hw27
        have hP : va_P G vwCl [(h0, oX10 b o_thrown o_taped o_size o_at o_from o_token o_value o_faultKind o_faultPlace o_lawNow o_walkSet o_oneWidow o_oneTurn o_askWorst o_mayWalk o_oftenAll o_oftenRoad o_oftenPegs), (b 4, .inl (cB, 900, .inl o_f4))] H := hP
        have hD : va_D A [(h0, oX10 b o_thrown o_taped o_size o_at o_from o_token o_value o_faultKind o_faultPlace o_lawNow o_walkSet o_oneWidow o_oneTurn o_askWorst o_mayWalk o_oftenAll o_oftenRoad o_oftenPegs), (b 4, .inl (cB, 900, .inl o_f4))] := hD
        rcases hw27 with ⟨rfl, a29⟩ | ⟨rfl, a30⟩
        · skip
          refine lv_if_eq (tgt := 52) hx hb dX10_turnWord_45 (by decide) (fun c31 => absurd c31 (by decide)) (fun c31 => ?_)
          refine lv_iconst (v := 3) hx hb dX10_turnWord_48 (by decide) ?_
          refine lv_goto (tgt := 53) hx hb dX10_turnWord_49 (by decide) ?_
          exact hret _ _ _ _ 3 () hP hD hS dX10_turnWord_53 (show (-1) ≤ (3 : Int32).toInt ∧ (3 : Int32).toInt ≤ 3 from ⟨(by rw [ki_3]; decide), (by rw [ki_3]; decide)⟩)
        · skip
          refine lv_if_eq (tgt := 52) hx hb dX10_turnWord_45 (by decide) (fun c32 => ?_) (fun c32 => absurd (by decide) c32)
          refine lv_iconst (v := (-1)) hx hb dX10_turnWord_52 (by decide) ?_
          exact hret _ _ _ _ (-1) () hP hD hS dX10_turnWord_53 (show (-1) ≤ ((-1) : Int32).toInt ∧ ((-1) : Int32).toInt ≤ 3 from ⟨(by rw [ki_m1]; decide), (by rw [ki_m1]; decide)⟩)
